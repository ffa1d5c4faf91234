theorem dBT_init_0 : decode cBT_init 0 = .ok (.aload_n 0, 1) := by decide +kernel
theorem dBT_init_1 : decode cBT_init 1 = .ok (.invokespecial 3, 3) := by decide +kernel
theorem dBT_init_4 : decode cBT_init 4 = .ok (.aload_n 0, 1) := by decide +kernel
theorem dBT_init_5 : decode cBT_init 5 = .ok (.bipush 9, 2) := by decide +kernel
theorem dBT_init_7 : decode cBT_init 7 = .ok (.newarray .int, 2) := by decide +kernel
theorem dBT_init_9 : decode cBT_init 9 = .ok (.putfield 9, 3) := by decide +kernel
theorem dBT_init_12 : decode cBT_init 12 = .ok (.return_, 1) := by decide +kernel
theorem dBT_length_0 : decode cBT_length 0 = .ok (.iconst 2, 1) := by decide +kernel
theorem dBT_length_1 : decode cBT_length 1 = .ok (.iload_n 1, 1) := by decide +kernel
theorem dBT_length_2 : decode cBT_length 2 = .ok (.imul, 1) := by decide +kernel
theorem dBT_length_3 : decode cBT_length 3 = .ok (.ireturn, 1) := by decide +kernel
theorem dBT_write_0 : decode cBT_write 0 = .ok (.iconst 0, 1) := by decide +kernel
theorem dBT_write_1 : decode cBT_write 1 = .ok (.istore_n 3, 1) := by decide +kernel
theorem dBT_write_2 : decode cBT_write 2 = .ok (.iconst 0, 1) := by decide +kernel
theorem dBT_write_3 : decode cBT_write 3 = .ok (.istore 4, 2) := by decide +kernel
theorem dBT_write_5 : decode cBT_write 5 = .ok (.iload 4, 2) := by decide +kernel
theorem dBT_write_7 : decode cBT_write 7 = .ok (.aload_n 1, 1) := by decide +kernel
theorem dBT_write_8 : decode cBT_write 8 = .ok (.invokevirtual 15, 3) := by decide +kernel
theorem dBT_write_11 : decode cBT_write 11 = .ok (.if_icmp .ge 55, 3) := by decide +kernel
theorem dBT_write_14 : decode cBT_write 14 = .ok (.aload_n 1, 1) := by decide +kernel
theorem dBT_write_15 : decode cBT_write 15 = .ok (.iload 4, 2) := by decide +kernel
theorem dBT_write_17 : decode cBT_write 17 = .ok (.invokevirtual 21, 3) := by decide +kernel
theorem dBT_write_20 : decode cBT_write 20 = .ok (.ifCond .eq 40, 3) := by decide +kernel
theorem dBT_write_23 : decode cBT_write 23 = .ok (.aload_n 2, 1) := by decide +kernel
theorem dBT_write_24 : decode cBT_write 24 = .ok (.iconst 2, 1) := by decide +kernel
theorem dBT_write_25 : decode cBT_write 25 = .ok (.iload_n 3, 1) := by decide +kernel
theorem dBT_write_26 : decode cBT_write 26 = .ok (.imul, 1) := by decide +kernel
theorem dBT_write_27 : decode cBT_write 27 = .ok (.aload_n 1, 1) := by decide +kernel
theorem dBT_write_28 : decode cBT_write 28 = .ok (.iload 4, 2) := by decide +kernel
theorem dBT_write_30 : decode cBT_write 30 = .ok (.iconst 1, 1) := by decide +kernel
theorem dBT_write_31 : decode cBT_write 31 = .ok (.iadd, 1) := by decide +kernel
theorem dBT_write_32 : decode cBT_write 32 = .ok (.invokestatic 25, 3) := by decide +kernel
theorem dBT_write_35 : decode cBT_write 35 = .ok (.iastore, 1) := by decide +kernel
theorem dBT_write_36 : decode cBT_write 36 = .ok (.aload_n 2, 1) := by decide +kernel
theorem dBT_write_37 : decode cBT_write 37 = .ok (.iconst 2, 1) := by decide +kernel
theorem dBT_write_38 : decode cBT_write 38 = .ok (.iload_n 3, 1) := by decide +kernel
theorem dBT_write_39 : decode cBT_write 39 = .ok (.imul, 1) := by decide +kernel
theorem dBT_write_40 : decode cBT_write 40 = .ok (.iconst 1, 1) := by decide +kernel
theorem dBT_write_41 : decode cBT_write 41 = .ok (.iadd, 1) := by decide +kernel
theorem dBT_write_42 : decode cBT_write 42 = .ok (.aload_n 1, 1) := by decide +kernel
theorem dBT_write_43 : decode cBT_write 43 = .ok (.aload_n 1, 1) := by decide +kernel
theorem dBT_write_44 : decode cBT_write 44 = .ok (.iload 4, 2) := by decide +kernel
theorem dBT_write_46 : decode cBT_write 46 = .ok (.iconst 1, 1) := by decide +kernel
theorem dBT_write_47 : decode cBT_write 47 = .ok (.iadd, 1) := by decide +kernel
theorem dBT_write_48 : decode cBT_write 48 = .ok (.invokevirtual 29, 3) := by decide +kernel
theorem dBT_write_51 : decode cBT_write 51 = .ok (.iconst 1, 1) := by decide +kernel
theorem dBT_write_52 : decode cBT_write 52 = .ok (.iadd, 1) := by decide +kernel
theorem dBT_write_53 : decode cBT_write 53 = .ok (.invokestatic 25, 3) := by decide +kernel
theorem dBT_write_56 : decode cBT_write 56 = .ok (.iastore, 1) := by decide +kernel
theorem dBT_write_57 : decode cBT_write 57 = .ok (.iinc 3 1, 3) := by decide +kernel
theorem dBT_write_60 : decode cBT_write 60 = .ok (.iinc 4 1, 3) := by decide +kernel
theorem dBT_write_63 : decode cBT_write 63 = .ok (.goto (-58), 3) := by decide +kernel
theorem dBT_write_66 : decode cBT_write 66 = .ok (.return_, 1) := by decide +kernel
theorem dBT_nodeAt_0 : decode cBT_nodeAt 0 = .ok (.aload_n 0, 1) := by decide +kernel
theorem dBT_nodeAt_1 : decode cBT_nodeAt 1 = .ok (.iload_n 1, 1) := by decide +kernel
theorem dBT_nodeAt_2 : decode cBT_nodeAt 2 = .ok (.invokevirtual 21, 3) := by decide +kernel
theorem dBT_nodeAt_5 : decode cBT_nodeAt 5 = .ok (.ifCond .eq 11, 3) := by decide +kernel
theorem dBT_nodeAt_8 : decode cBT_nodeAt 8 = .ok (.aload_n 0, 1) := by decide +kernel
theorem dBT_nodeAt_9 : decode cBT_nodeAt 9 = .ok (.iload_n 1, 1) := by decide +kernel
theorem dBT_nodeAt_10 : decode cBT_nodeAt 10 = .ok (.invokevirtual 33, 3) := by decide +kernel
theorem dBT_nodeAt_13 : decode cBT_nodeAt 13 = .ok (.goto 4, 3) := by decide +kernel
theorem dBT_nodeAt_16 : decode cBT_nodeAt 16 = .ok (.iconst (-1), 1) := by decide +kernel
theorem dBT_nodeAt_17 : decode cBT_nodeAt 17 = .ok (.ireturn, 1) := by decide +kernel
theorem dBT_read_0 : decode cBT_read 0 = .ok (.aload_n 2, 1) := by decide +kernel
theorem dBT_read_1 : decode cBT_read 1 = .ok (.invokevirtual 36, 3) := by decide +kernel
theorem dBT_read_4 : decode cBT_read 4 = .ok (.istore_n 3, 1) := by decide +kernel
theorem dBT_read_5 : decode cBT_read 5 = .ok (.aload_n 0, 1) := by decide +kernel
theorem dBT_read_6 : decode cBT_read 6 = .ok (.getfield 9, 3) := by decide +kernel
theorem dBT_read_9 : decode cBT_read 9 = .ok (.iload_n 3, 1) := by decide +kernel
theorem dBT_read_10 : decode cBT_read 10 = .ok (.invokestatic 39, 3) := by decide +kernel
theorem dBT_read_13 : decode cBT_read 13 = .ok (.iconst 0, 1) := by decide +kernel
theorem dBT_read_14 : decode cBT_read 14 = .ok (.istore 4, 2) := by decide +kernel
theorem dBT_read_16 : decode cBT_read 16 = .ok (.iload 4, 2) := by decide +kernel
theorem dBT_read_18 : decode cBT_read 18 = .ok (.iload_n 3, 1) := by decide +kernel
theorem dBT_read_19 : decode cBT_read 19 = .ok (.if_icmp .ge 85, 3) := by decide +kernel
theorem dBT_read_22 : decode cBT_read 22 = .ok (.aload_n 1, 1) := by decide +kernel
theorem dBT_read_23 : decode cBT_read 23 = .ok (.iconst 2, 1) := by decide +kernel
theorem dBT_read_24 : decode cBT_read 24 = .ok (.iload 4, 2) := by decide +kernel
theorem dBT_read_26 : decode cBT_read 26 = .ok (.imul, 1) := by decide +kernel
theorem dBT_read_27 : decode cBT_read 27 = .ok (.iconst 1, 1) := by decide +kernel
theorem dBT_read_28 : decode cBT_read 28 = .ok (.iadd, 1) := by decide +kernel
theorem dBT_read_29 : decode cBT_read 29 = .ok (.iaload, 1) := by decide +kernel
theorem dBT_read_30 : decode cBT_read 30 = .ok (.istore 5, 2) := by decide +kernel
theorem dBT_read_32 : decode cBT_read 32 = .ok (.aload_n 0, 1) := by decide +kernel
theorem dBT_read_33 : decode cBT_read 33 = .ok (.getfield 9, 3) := by decide +kernel
theorem dBT_read_36 : decode cBT_read 36 = .ok (.iload 4, 2) := by decide +kernel
theorem dBT_read_38 : decode cBT_read 38 = .ok (.iaload, 1) := by decide +kernel
theorem dBT_read_39 : decode cBT_read 39 = .ok (.istore 6, 2) := by decide +kernel
theorem dBT_read_41 : decode cBT_read 41 = .ok (.iload 5, 2) := by decide +kernel
theorem dBT_read_43 : decode cBT_read 43 = .ok (.iload 4, 2) := by decide +kernel
theorem dBT_read_45 : decode cBT_read 45 = .ok (.if_icmp .le 27, 3) := by decide +kernel
theorem dBT_read_48 : decode cBT_read 48 = .ok (.iload 5, 2) := by decide +kernel
theorem dBT_read_50 : decode cBT_read 50 = .ok (.iload_n 3, 1) := by decide +kernel
theorem dBT_read_51 : decode cBT_read 51 = .ok (.if_icmp .ge 21, 3) := by decide +kernel
theorem dBT_read_54 : decode cBT_read 54 = .ok (.aload_n 0, 1) := by decide +kernel
theorem dBT_read_55 : decode cBT_read 55 = .ok (.getfield 9, 3) := by decide +kernel
theorem dBT_read_58 : decode cBT_read 58 = .ok (.iload 5, 2) := by decide +kernel
theorem dBT_read_60 : decode cBT_read 60 = .ok (.aload_n 0, 1) := by decide +kernel
theorem dBT_read_61 : decode cBT_read 61 = .ok (.getfield 9, 3) := by decide +kernel
theorem dBT_read_64 : decode cBT_read 64 = .ok (.iload 4, 2) := by decide +kernel
theorem dBT_read_66 : decode cBT_read 66 = .ok (.iaload, 1) := by decide +kernel
theorem dBT_read_67 : decode cBT_read 67 = .ok (.iastore, 1) := by decide +kernel
theorem dBT_read_68 : decode cBT_read 68 = .ok (.iload 5, 2) := by decide +kernel
theorem dBT_read_70 : decode cBT_read 70 = .ok (.istore 6, 2) := by decide +kernel
theorem dBT_read_72 : decode cBT_read 72 = .ok (.iload 4, 2) := by decide +kernel
theorem dBT_read_74 : decode cBT_read 74 = .ok (.iconst 1, 1) := by decide +kernel
theorem dBT_read_75 : decode cBT_read 75 = .ok (.iadd, 1) := by decide +kernel
theorem dBT_read_76 : decode cBT_read 76 = .ok (.iload 6, 2) := by decide +kernel
theorem dBT_read_78 : decode cBT_read 78 = .ok (.if_icmp .ge 14, 3) := by decide +kernel
theorem dBT_read_81 : decode cBT_read 81 = .ok (.aload_n 0, 1) := by decide +kernel
theorem dBT_read_82 : decode cBT_read 82 = .ok (.getfield 9, 3) := by decide +kernel
theorem dBT_read_85 : decode cBT_read 85 = .ok (.iload 4, 2) := by decide +kernel
theorem dBT_read_87 : decode cBT_read 87 = .ok (.iconst 1, 1) := by decide +kernel
theorem dBT_read_88 : decode cBT_read 88 = .ok (.iadd, 1) := by decide +kernel
theorem dBT_read_89 : decode cBT_read 89 = .ok (.iload 6, 2) := by decide +kernel
theorem dBT_read_91 : decode cBT_read 91 = .ok (.iastore, 1) := by decide +kernel
theorem dBT_read_92 : decode cBT_read 92 = .ok (.aload_n 2, 1) := by decide +kernel
theorem dBT_read_93 : decode cBT_read 93 = .ok (.iload 6, 2) := by decide +kernel
theorem dBT_read_95 : decode cBT_read 95 = .ok (.invokevirtual 45, 3) := by decide +kernel
theorem dBT_read_98 : decode cBT_read 98 = .ok (.iinc 4 1, 3) := by decide +kernel
theorem dBT_read_101 : decode cBT_read 101 = .ok (.goto (-85), 3) := by decide +kernel
theorem dBT_read_104 : decode cBT_read 104 = .ok (.return_, 1) := by decide +kernel
theorem dBR_init_0 : decode cBR_init 0 = .ok (.aload_n 0, 1) := by decide +kernel
theorem dBR_init_1 : decode cBR_init 1 = .ok (.invokespecial 1, 3) := by decide +kernel
theorem dBR_init_4 : decode cBR_init 4 = .ok (.return_, 1) := by decide +kernel
theorem dBR_length_0 : decode cBR_length 0 = .ok (.iconst 2, 1) := by decide +kernel
theorem dBR_length_1 : decode cBR_length 1 = .ok (.iload_n 1, 1) := by decide +kernel
theorem dBR_length_2 : decode cBR_length 2 = .ok (.imul, 1) := by decide +kernel
theorem dBR_length_3 : decode cBR_length 3 = .ok (.ireturn, 1) := by decide +kernel
theorem dBR_write_0 : decode cBR_write 0 = .ok (.iconst 0, 1) := by decide +kernel
theorem dBR_write_1 : decode cBR_write 1 = .ok (.istore_n 3, 1) := by decide +kernel
theorem dBR_write_2 : decode cBR_write 2 = .ok (.iload_n 3, 1) := by decide +kernel
theorem dBR_write_3 : decode cBR_write 3 = .ok (.aload_n 1, 1) := by decide +kernel
theorem dBR_write_4 : decode cBR_write 4 = .ok (.invokevirtual 7, 3) := by decide +kernel
theorem dBR_write_7 : decode cBR_write 7 = .ok (.if_icmp .ge 25, 3) := by decide +kernel
theorem dBR_write_10 : decode cBR_write 10 = .ok (.aload_n 2, 1) := by decide +kernel
theorem dBR_write_11 : decode cBR_write 11 = .ok (.iload_n 3, 1) := by decide +kernel
theorem dBR_write_12 : decode cBR_write 12 = .ok (.aload_n 1, 1) := by decide +kernel
theorem dBR_write_13 : decode cBR_write 13 = .ok (.iload_n 3, 1) := by decide +kernel
theorem dBR_write_14 : decode cBR_write 14 = .ok (.invokevirtual 13, 3) := by decide +kernel
theorem dBR_write_17 : decode cBR_write 17 = .ok (.ifCond .eq 7, 3) := by decide +kernel
theorem dBR_write_20 : decode cBR_write 20 = .ok (.iconst 1, 1) := by decide +kernel
theorem dBR_write_21 : decode cBR_write 21 = .ok (.goto 4, 3) := by decide +kernel
theorem dBR_write_24 : decode cBR_write 24 = .ok (.iconst 0, 1) := by decide +kernel
theorem dBR_write_25 : decode cBR_write 25 = .ok (.iastore, 1) := by decide +kernel
theorem dBR_write_26 : decode cBR_write 26 = .ok (.iinc 3 1, 3) := by decide +kernel
theorem dBR_write_29 : decode cBR_write 29 = .ok (.goto (-27), 3) := by decide +kernel
theorem dBR_write_32 : decode cBR_write 32 = .ok (.return_, 1) := by decide +kernel
theorem dBR_read_0 : decode cBR_read 0 = .ok (.iconst 0, 1) := by decide +kernel
theorem dBR_read_1 : decode cBR_read 1 = .ok (.istore_n 3, 1) := by decide +kernel
theorem dBR_read_2 : decode cBR_read 2 = .ok (.iconst 0, 1) := by decide +kernel
theorem dBR_read_3 : decode cBR_read 3 = .ok (.istore 4, 2) := by decide +kernel
theorem dBR_read_5 : decode cBR_read 5 = .ok (.iload 4, 2) := by decide +kernel
theorem dBR_read_7 : decode cBR_read 7 = .ok (.aload_n 2, 1) := by decide +kernel
theorem dBR_read_8 : decode cBR_read 8 = .ok (.invokevirtual 7, 3) := by decide +kernel
theorem dBR_read_11 : decode cBR_read 11 = .ok (.if_icmp .ge 28, 3) := by decide +kernel
theorem dBR_read_14 : decode cBR_read 14 = .ok (.aload_n 1, 1) := by decide +kernel
theorem dBR_read_15 : decode cBR_read 15 = .ok (.iload 4, 2) := by decide +kernel
theorem dBR_read_17 : decode cBR_read 17 = .ok (.iaload, 1) := by decide +kernel
theorem dBR_read_18 : decode cBR_read 18 = .ok (.iconst 1, 1) := by decide +kernel
theorem dBR_read_19 : decode cBR_read 19 = .ok (.if_icmp .ne 9, 3) := by decide +kernel
theorem dBR_read_22 : decode cBR_read 22 = .ok (.iinc 3 1, 3) := by decide +kernel
theorem dBR_read_25 : decode cBR_read 25 = .ok (.goto 8, 3) := by decide +kernel
theorem dBR_read_28 : decode cBR_read 28 = .ok (.aload_n 2, 1) := by decide +kernel
theorem dBR_read_29 : decode cBR_read 29 = .ok (.iload_n 3, 1) := by decide +kernel
theorem dBR_read_30 : decode cBR_read 30 = .ok (.invokevirtual 17, 3) := by decide +kernel
theorem dBR_read_33 : decode cBR_read 33 = .ok (.iinc 4 1, 3) := by decide +kernel
theorem dBR_read_36 : decode cBR_read 36 = .ok (.goto (-31), 3) := by decide +kernel
theorem dBR_read_39 : decode cBR_read 39 = .ok (.return_, 1) := by decide +kernel
theorem dFA_init_0 : decode cFA_init 0 = .ok (.aload_n 0, 1) := by decide +kernel
theorem dFA_init_1 : decode cFA_init 1 = .ok (.invokespecial 1, 3) := by decide +kernel
theorem dFA_init_4 : decode cFA_init 4 = .ok (.return_, 1) := by decide +kernel
theorem dPA_init_0 : decode cPA_init 0 = .ok (.aload_n 0, 1) := by decide +kernel
theorem dPA_init_1 : decode cPA_init 1 = .ok (.invokespecial 3, 3) := by decide +kernel
theorem dPA_init_4 : decode cPA_init 4 = .ok (.aload_n 0, 1) := by decide +kernel
theorem dPA_init_5 : decode cPA_init 5 = .ok (.bipush 9, 2) := by decide +kernel
theorem dPA_init_7 : decode cPA_init 7 = .ok (.newarray .int, 2) := by decide +kernel
theorem dPA_init_9 : decode cPA_init 9 = .ok (.putfield 9, 3) := by decide +kernel
theorem dPA_init_12 : decode cPA_init 12 = .ok (.aload_n 0, 1) := by decide +kernel
theorem dPA_init_13 : decode cPA_init 13 = .ok (.bipush 9, 2) := by decide +kernel
theorem dPA_init_15 : decode cPA_init 15 = .ok (.newarray .int, 2) := by decide +kernel
theorem dPA_init_17 : decode cPA_init 17 = .ok (.putfield 15, 3) := by decide +kernel
theorem dPA_init_20 : decode cPA_init 20 = .ok (.aload_n 0, 1) := by decide +kernel
theorem dPA_init_21 : decode cPA_init 21 = .ok (.bipush 10, 2) := by decide +kernel
theorem dPA_init_23 : decode cPA_init 23 = .ok (.newarray .int, 2) := by decide +kernel
theorem dPA_init_25 : decode cPA_init 25 = .ok (.putfield 18, 3) := by decide +kernel
theorem dPA_init_28 : decode cPA_init 28 = .ok (.aload_n 0, 1) := by decide +kernel
theorem dPA_init_29 : decode cPA_init 29 = .ok (.bipush 10, 2) := by decide +kernel
theorem dPA_init_31 : decode cPA_init 31 = .ok (.newarray .int, 2) := by decide +kernel
theorem dPA_init_33 : decode cPA_init 33 = .ok (.putfield 21, 3) := by decide +kernel
theorem dPA_init_36 : decode cPA_init 36 = .ok (.return_, 1) := by decide +kernel
theorem dPA_length_0 : decode cPA_length 0 = .ok (.iload_n 1, 1) := by decide +kernel
theorem dPA_length_1 : decode cPA_length 1 = .ok (.ireturn, 1) := by decide +kernel
theorem dPA_write_0 : decode cPA_write 0 = .ok (.iconst 0, 1) := by decide +kernel
theorem dPA_write_1 : decode cPA_write 1 = .ok (.istore_n 3, 1) := by decide +kernel
theorem dPA_write_2 : decode cPA_write 2 = .ok (.iconst 1, 1) := by decide +kernel
theorem dPA_write_3 : decode cPA_write 3 = .ok (.istore 4, 2) := by decide +kernel
theorem dPA_write_5 : decode cPA_write 5 = .ok (.iload 4, 2) := by decide +kernel
theorem dPA_write_7 : decode cPA_write 7 = .ok (.aload_n 1, 1) := by decide +kernel
theorem dPA_write_8 : decode cPA_write 8 = .ok (.invokevirtual 24, 3) := by decide +kernel
theorem dPA_write_11 : decode cPA_write 11 = .ok (.if_icmp .gt 67, 3) := by decide +kernel
theorem dPA_write_14 : decode cPA_write 14 = .ok (.aload_n 0, 1) := by decide +kernel
theorem dPA_write_15 : decode cPA_write 15 = .ok (.getfield 9, 3) := by decide +kernel
theorem dPA_write_18 : decode cPA_write 18 = .ok (.iload_n 3, 1) := by decide +kernel
theorem dPA_write_19 : decode cPA_write 19 = .ok (.iload 4, 2) := by decide +kernel
theorem dPA_write_21 : decode cPA_write 21 = .ok (.iastore, 1) := by decide +kernel
theorem dPA_write_22 : decode cPA_write 22 = .ok (.iinc 3 1, 3) := by decide +kernel
theorem dPA_write_25 : decode cPA_write 25 = .ok (.iload_n 3, 1) := by decide +kernel
theorem dPA_write_26 : decode cPA_write 26 = .ok (.aload_n 1, 1) := by decide +kernel
theorem dPA_write_27 : decode cPA_write 27 = .ok (.iload 4, 2) := by decide +kernel
theorem dPA_write_29 : decode cPA_write 29 = .ok (.invokevirtual 30, 3) := by decide +kernel
theorem dPA_write_32 : decode cPA_write 32 = .ok (.isub, 1) := by decide +kernel
theorem dPA_write_33 : decode cPA_write 33 = .ok (.istore 5, 2) := by decide +kernel
theorem dPA_write_35 : decode cPA_write 35 = .ok (.iload 5, 2) := by decide +kernel
theorem dPA_write_37 : decode cPA_write 37 = .ok (.istore 6, 2) := by decide +kernel
theorem dPA_write_39 : decode cPA_write 39 = .ok (.iload 6, 2) := by decide +kernel
theorem dPA_write_41 : decode cPA_write 41 = .ok (.iload_n 3, 1) := by decide +kernel
theorem dPA_write_42 : decode cPA_write 42 = .ok (.if_icmp .ge 27, 3) := by decide +kernel
theorem dPA_write_45 : decode cPA_write 45 = .ok (.aload_n 2, 1) := by decide +kernel
theorem dPA_write_46 : decode cPA_write 46 = .ok (.aload_n 0, 1) := by decide +kernel
theorem dPA_write_47 : decode cPA_write 47 = .ok (.getfield 9, 3) := by decide +kernel
theorem dPA_write_50 : decode cPA_write 50 = .ok (.iload 6, 2) := by decide +kernel
theorem dPA_write_52 : decode cPA_write 52 = .ok (.iaload, 1) := by decide +kernel
theorem dPA_write_53 : decode cPA_write 53 = .ok (.iconst 1, 1) := by decide +kernel
theorem dPA_write_54 : decode cPA_write 54 = .ok (.isub, 1) := by decide +kernel
theorem dPA_write_55 : decode cPA_write 55 = .ok (.aload_n 0, 1) := by decide +kernel
theorem dPA_write_56 : decode cPA_write 56 = .ok (.getfield 9, 3) := by decide +kernel
theorem dPA_write_59 : decode cPA_write 59 = .ok (.iload 5, 2) := by decide +kernel
theorem dPA_write_61 : decode cPA_write 61 = .ok (.iaload, 1) := by decide +kernel
theorem dPA_write_62 : decode cPA_write 62 = .ok (.iastore, 1) := by decide +kernel
theorem dPA_write_63 : decode cPA_write 63 = .ok (.iinc 6 1, 3) := by decide +kernel
theorem dPA_write_66 : decode cPA_write 66 = .ok (.goto (-27), 3) := by decide +kernel
theorem dPA_write_69 : decode cPA_write 69 = .ok (.iload 5, 2) := by decide +kernel
theorem dPA_write_71 : decode cPA_write 71 = .ok (.istore_n 3, 1) := by decide +kernel
theorem dPA_write_72 : decode cPA_write 72 = .ok (.iinc 4 1, 3) := by decide +kernel
theorem dPA_write_75 : decode cPA_write 75 = .ok (.goto (-70), 3) := by decide +kernel
theorem dPA_write_78 : decode cPA_write 78 = .ok (.return_, 1) := by decide +kernel
theorem dPA_read_0 : decode cPA_read 0 = .ok (.aload_n 2, 1) := by decide +kernel
theorem dPA_read_1 : decode cPA_read 1 = .ok (.invokevirtual 24, 3) := by decide +kernel
theorem dPA_read_4 : decode cPA_read 4 = .ok (.istore_n 3, 1) := by decide +kernel
theorem dPA_read_5 : decode cPA_read 5 = .ok (.iconst 1, 1) := by decide +kernel
theorem dPA_read_6 : decode cPA_read 6 = .ok (.istore 4, 2) := by decide +kernel
theorem dPA_read_8 : decode cPA_read 8 = .ok (.iload 4, 2) := by decide +kernel
theorem dPA_read_10 : decode cPA_read 10 = .ok (.iload_n 3, 1) := by decide +kernel
theorem dPA_read_11 : decode cPA_read 11 = .ok (.if_icmp .gt 38, 3) := by decide +kernel
theorem dPA_read_14 : decode cPA_read 14 = .ok (.aload_n 1, 1) := by decide +kernel
theorem dPA_read_15 : decode cPA_read 15 = .ok (.iload 4, 2) := by decide +kernel
theorem dPA_read_17 : decode cPA_read 17 = .ok (.iconst 1, 1) := by decide +kernel
theorem dPA_read_18 : decode cPA_read 18 = .ok (.isub, 1) := by decide +kernel
theorem dPA_read_19 : decode cPA_read 19 = .ok (.iaload, 1) := by decide +kernel
theorem dPA_read_20 : decode cPA_read 20 = .ok (.istore 5, 2) := by decide +kernel
theorem dPA_read_22 : decode cPA_read 22 = .ok (.iload 5, 2) := by decide +kernel
theorem dPA_read_24 : decode cPA_read 24 = .ok (.iconst 1, 1) := by decide +kernel
theorem dPA_read_25 : decode cPA_read 25 = .ok (.if_icmp .lt 18, 3) := by decide +kernel
theorem dPA_read_28 : decode cPA_read 28 = .ok (.iload 5, 2) := by decide +kernel
theorem dPA_read_30 : decode cPA_read 30 = .ok (.iload_n 3, 1) := by decide +kernel
theorem dPA_read_31 : decode cPA_read 31 = .ok (.if_icmp .gt 12, 3) := by decide +kernel
theorem dPA_read_34 : decode cPA_read 34 = .ok (.aload_n 0, 1) := by decide +kernel
theorem dPA_read_35 : decode cPA_read 35 = .ok (.getfield 18, 3) := by decide +kernel
theorem dPA_read_38 : decode cPA_read 38 = .ok (.iload 5, 2) := by decide +kernel
theorem dPA_read_40 : decode cPA_read 40 = .ok (.iload 4, 2) := by decide +kernel
theorem dPA_read_42 : decode cPA_read 42 = .ok (.iastore, 1) := by decide +kernel
theorem dPA_read_43 : decode cPA_read 43 = .ok (.iinc 4 1, 3) := by decide +kernel
theorem dPA_read_46 : decode cPA_read 46 = .ok (.goto (-38), 3) := by decide +kernel
theorem dPA_read_49 : decode cPA_read 49 = .ok (.iconst 1, 1) := by decide +kernel
theorem dPA_read_50 : decode cPA_read 50 = .ok (.istore 4, 2) := by decide +kernel
theorem dPA_read_52 : decode cPA_read 52 = .ok (.iload 4, 2) := by decide +kernel
theorem dPA_read_54 : decode cPA_read 54 = .ok (.iload_n 3, 1) := by decide +kernel
theorem dPA_read_55 : decode cPA_read 55 = .ok (.if_icmp .gt 40, 3) := by decide +kernel
theorem dPA_read_58 : decode cPA_read 58 = .ok (.aload_n 1, 1) := by decide +kernel
theorem dPA_read_59 : decode cPA_read 59 = .ok (.iload 4, 2) := by decide +kernel
theorem dPA_read_61 : decode cPA_read 61 = .ok (.iconst 1, 1) := by decide +kernel
theorem dPA_read_62 : decode cPA_read 62 = .ok (.isub, 1) := by decide +kernel
theorem dPA_read_63 : decode cPA_read 63 = .ok (.iaload, 1) := by decide +kernel
theorem dPA_read_64 : decode cPA_read 64 = .ok (.istore 5, 2) := by decide +kernel
theorem dPA_read_66 : decode cPA_read 66 = .ok (.iload 5, 2) := by decide +kernel
theorem dPA_read_68 : decode cPA_read 68 = .ok (.iconst 1, 1) := by decide +kernel
theorem dPA_read_69 : decode cPA_read 69 = .ok (.if_icmp .lt 20, 3) := by decide +kernel
theorem dPA_read_72 : decode cPA_read 72 = .ok (.iload 5, 2) := by decide +kernel
theorem dPA_read_74 : decode cPA_read 74 = .ok (.iload_n 3, 1) := by decide +kernel
theorem dPA_read_75 : decode cPA_read 75 = .ok (.if_icmp .gt 14, 3) := by decide +kernel
theorem dPA_read_78 : decode cPA_read 78 = .ok (.aload_n 2, 1) := by decide +kernel
theorem dPA_read_79 : decode cPA_read 79 = .ok (.aload_n 0, 1) := by decide +kernel
theorem dPA_read_80 : decode cPA_read 80 = .ok (.getfield 18, 3) := by decide +kernel
theorem dPA_read_83 : decode cPA_read 83 = .ok (.iload 5, 2) := by decide +kernel
theorem dPA_read_85 : decode cPA_read 85 = .ok (.iaload, 1) := by decide +kernel
theorem dPA_read_86 : decode cPA_read 86 = .ok (.invokevirtual 34, 3) := by decide +kernel
theorem dPA_read_89 : decode cPA_read 89 = .ok (.iinc 4 1, 3) := by decide +kernel
theorem dPA_read_92 : decode cPA_read 92 = .ok (.goto (-40), 3) := by decide +kernel
theorem dPA_read_95 : decode cPA_read 95 = .ok (.return_, 1) := by decide +kernel
theorem dPA_tellComplement_0 : decode cPA_tellComplement 0 = .ok (.aload_n 1, 1) := by decide +kernel
theorem dPA_tellComplement_1 : decode cPA_tellComplement 1 = .ok (.invokevirtual 24, 3) := by decide +kernel
theorem dPA_tellComplement_4 : decode cPA_tellComplement 4 = .ok (.istore_n 3, 1) := by decide +kernel
theorem dPA_tellComplement_5 : decode cPA_tellComplement 5 = .ok (.aload_n 0, 1) := by decide +kernel
theorem dPA_tellComplement_6 : decode cPA_tellComplement 6 = .ok (.aload_n 1, 1) := by decide +kernel
theorem dPA_tellComplement_7 : decode cPA_tellComplement 7 = .ok (.aload_n 0, 1) := by decide +kernel
theorem dPA_tellComplement_8 : decode cPA_tellComplement 8 = .ok (.getfield 15, 3) := by decide +kernel
theorem dPA_tellComplement_11 : decode cPA_tellComplement 11 = .ok (.invokevirtual 38, 3) := by decide +kernel
theorem dPA_tellComplement_14 : decode cPA_tellComplement 14 = .ok (.iconst 1, 1) := by decide +kernel
theorem dPA_tellComplement_15 : decode cPA_tellComplement 15 = .ok (.istore 4, 2) := by decide +kernel
theorem dPA_tellComplement_17 : decode cPA_tellComplement 17 = .ok (.iload 4, 2) := by decide +kernel
theorem dPA_tellComplement_19 : decode cPA_tellComplement 19 = .ok (.iload_n 3, 1) := by decide +kernel
theorem dPA_tellComplement_20 : decode cPA_tellComplement 20 = .ok (.if_icmp .gt 23, 3) := by decide +kernel
theorem dPA_tellComplement_23 : decode cPA_tellComplement 23 = .ok (.aload_n 0, 1) := by decide +kernel
theorem dPA_tellComplement_24 : decode cPA_tellComplement 24 = .ok (.getfield 21, 3) := by decide +kernel
theorem dPA_tellComplement_27 : decode cPA_tellComplement 27 = .ok (.aload_n 0, 1) := by decide +kernel
theorem dPA_tellComplement_28 : decode cPA_tellComplement 28 = .ok (.iload 4, 2) := by decide +kernel
theorem dPA_tellComplement_30 : decode cPA_tellComplement 30 = .ok (.iload_n 3, 1) := by decide +kernel
theorem dPA_tellComplement_31 : decode cPA_tellComplement 31 = .ok (.invokevirtual 42, 3) := by decide +kernel
theorem dPA_tellComplement_34 : decode cPA_tellComplement 34 = .ok (.iload 4, 2) := by decide +kernel
theorem dPA_tellComplement_36 : decode cPA_tellComplement 36 = .ok (.iastore, 1) := by decide +kernel
theorem dPA_tellComplement_37 : decode cPA_tellComplement 37 = .ok (.iinc 4 1, 3) := by decide +kernel
theorem dPA_tellComplement_40 : decode cPA_tellComplement 40 = .ok (.goto (-23), 3) := by decide +kernel
theorem dPA_tellComplement_43 : decode cPA_tellComplement 43 = .ok (.iconst 1, 1) := by decide +kernel
theorem dPA_tellComplement_44 : decode cPA_tellComplement 44 = .ok (.istore 4, 2) := by decide +kernel
theorem dPA_tellComplement_46 : decode cPA_tellComplement 46 = .ok (.iload 4, 2) := by decide +kernel
theorem dPA_tellComplement_48 : decode cPA_tellComplement 48 = .ok (.iload_n 3, 1) := by decide +kernel
theorem dPA_tellComplement_49 : decode cPA_tellComplement 49 = .ok (.if_icmp .gt 20, 3) := by decide +kernel
theorem dPA_tellComplement_52 : decode cPA_tellComplement 52 = .ok (.aload_n 2, 1) := by decide +kernel
theorem dPA_tellComplement_53 : decode cPA_tellComplement 53 = .ok (.aload_n 0, 1) := by decide +kernel
theorem dPA_tellComplement_54 : decode cPA_tellComplement 54 = .ok (.iload 4, 2) := by decide +kernel
theorem dPA_tellComplement_56 : decode cPA_tellComplement 56 = .ok (.iload_n 3, 1) := by decide +kernel
theorem dPA_tellComplement_57 : decode cPA_tellComplement 57 = .ok (.invokevirtual 46, 3) := by decide +kernel
theorem dPA_tellComplement_60 : decode cPA_tellComplement 60 = .ok (.invokevirtual 34, 3) := by decide +kernel
theorem dPA_tellComplement_63 : decode cPA_tellComplement 63 = .ok (.iinc 4 1, 3) := by decide +kernel
theorem dPA_tellComplement_66 : decode cPA_tellComplement 66 = .ok (.goto (-20), 3) := by decide +kernel
theorem dPA_tellComplement_69 : decode cPA_tellComplement 69 = .ok (.return_, 1) := by decide +kernel
theorem dPA_next_0 : decode cPA_next 0 = .ok (.iload_n 1, 1) := by decide +kernel
theorem dPA_next_1 : decode cPA_next 1 = .ok (.iconst 1, 1) := by decide +kernel
theorem dPA_next_2 : decode cPA_next 2 = .ok (.iadd, 1) := by decide +kernel
theorem dPA_next_3 : decode cPA_next 3 = .ok (.istore_n 3, 1) := by decide +kernel
theorem dPA_next_4 : decode cPA_next 4 = .ok (.iload_n 3, 1) := by decide +kernel
theorem dPA_next_5 : decode cPA_next 5 = .ok (.iload_n 2, 1) := by decide +kernel
theorem dPA_next_6 : decode cPA_next 6 = .ok (.if_icmp .gt 30, 3) := by decide +kernel
theorem dPA_next_9 : decode cPA_next 9 = .ok (.aload_n 0, 1) := by decide +kernel
theorem dPA_next_10 : decode cPA_next 10 = .ok (.getfield 15, 3) := by decide +kernel
theorem dPA_next_13 : decode cPA_next 13 = .ok (.iload_n 3, 1) := by decide +kernel
theorem dPA_next_14 : decode cPA_next 14 = .ok (.iconst 1, 1) := by decide +kernel
theorem dPA_next_15 : decode cPA_next 15 = .ok (.isub, 1) := by decide +kernel
theorem dPA_next_16 : decode cPA_next 16 = .ok (.iaload, 1) := by decide +kernel
theorem dPA_next_17 : decode cPA_next 17 = .ok (.aload_n 0, 1) := by decide +kernel
theorem dPA_next_18 : decode cPA_next 18 = .ok (.getfield 15, 3) := by decide +kernel
theorem dPA_next_21 : decode cPA_next 21 = .ok (.iload_n 1, 1) := by decide +kernel
theorem dPA_next_22 : decode cPA_next 22 = .ok (.iconst 1, 1) := by decide +kernel
theorem dPA_next_23 : decode cPA_next 23 = .ok (.isub, 1) := by decide +kernel
theorem dPA_next_24 : decode cPA_next 24 = .ok (.iaload, 1) := by decide +kernel
theorem dPA_next_25 : decode cPA_next 25 = .ok (.if_icmp .ne 5, 3) := by decide +kernel
theorem dPA_next_28 : decode cPA_next 28 = .ok (.iload_n 3, 1) := by decide +kernel
theorem dPA_next_29 : decode cPA_next 29 = .ok (.ireturn, 1) := by decide +kernel
theorem dPA_next_30 : decode cPA_next 30 = .ok (.iinc 3 1, 3) := by decide +kernel
theorem dPA_next_33 : decode cPA_next 33 = .ok (.goto (-29), 3) := by decide +kernel
theorem dPA_next_36 : decode cPA_next 36 = .ok (.aload_n 0, 1) := by decide +kernel
theorem dPA_next_37 : decode cPA_next 37 = .ok (.getfield 15, 3) := by decide +kernel
theorem dPA_next_40 : decode cPA_next 40 = .ok (.iload_n 1, 1) := by decide +kernel
theorem dPA_next_41 : decode cPA_next 41 = .ok (.iconst 1, 1) := by decide +kernel
theorem dPA_next_42 : decode cPA_next 42 = .ok (.isub, 1) := by decide +kernel
theorem dPA_next_43 : decode cPA_next 43 = .ok (.iaload, 1) := by decide +kernel
theorem dPA_next_44 : decode cPA_next 44 = .ok (.ireturn, 1) := by decide +kernel
theorem dPA_greatestReached_0 : decode cPA_greatestReached 0 = .ok (.iload_n 1, 1) := by decide +kernel
theorem dPA_greatestReached_1 : decode cPA_greatestReached 1 = .ok (.istore_n 3, 1) := by decide +kernel
theorem dPA_greatestReached_2 : decode cPA_greatestReached 2 = .ok (.iload_n 1, 1) := by decide +kernel
theorem dPA_greatestReached_3 : decode cPA_greatestReached 3 = .ok (.istore 4, 2) := by decide +kernel
theorem dPA_greatestReached_5 : decode cPA_greatestReached 5 = .ok (.iconst 0, 1) := by decide +kernel
theorem dPA_greatestReached_6 : decode cPA_greatestReached 6 = .ok (.istore 5, 2) := by decide +kernel
theorem dPA_greatestReached_8 : decode cPA_greatestReached 8 = .ok (.iload 5, 2) := by decide +kernel
theorem dPA_greatestReached_10 : decode cPA_greatestReached 10 = .ok (.iload_n 2, 1) := by decide +kernel
theorem dPA_greatestReached_11 : decode cPA_greatestReached 11 = .ok (.if_icmp .ge 35, 3) := by decide +kernel
theorem dPA_greatestReached_14 : decode cPA_greatestReached 14 = .ok (.aload_n 0, 1) := by decide +kernel
theorem dPA_greatestReached_15 : decode cPA_greatestReached 15 = .ok (.getfield 21, 3) := by decide +kernel
theorem dPA_greatestReached_18 : decode cPA_greatestReached 18 = .ok (.iload_n 3, 1) := by decide +kernel
theorem dPA_greatestReached_19 : decode cPA_greatestReached 19 = .ok (.iload_n 2, 1) := by decide +kernel
theorem dPA_greatestReached_20 : decode cPA_greatestReached 20 = .ok (.if_icmp .ne 7, 3) := by decide +kernel
theorem dPA_greatestReached_23 : decode cPA_greatestReached 23 = .ok (.iconst 1, 1) := by decide +kernel
theorem dPA_greatestReached_24 : decode cPA_greatestReached 24 = .ok (.goto 6, 3) := by decide +kernel
theorem dPA_greatestReached_27 : decode cPA_greatestReached 27 = .ok (.iload_n 3, 1) := by decide +kernel
theorem dPA_greatestReached_28 : decode cPA_greatestReached 28 = .ok (.iconst 1, 1) := by decide +kernel
theorem dPA_greatestReached_29 : decode cPA_greatestReached 29 = .ok (.iadd, 1) := by decide +kernel
theorem dPA_greatestReached_30 : decode cPA_greatestReached 30 = .ok (.iaload, 1) := by decide +kernel
theorem dPA_greatestReached_31 : decode cPA_greatestReached 31 = .ok (.istore_n 3, 1) := by decide +kernel
theorem dPA_greatestReached_32 : decode cPA_greatestReached 32 = .ok (.iload 4, 2) := by decide +kernel
theorem dPA_greatestReached_34 : decode cPA_greatestReached 34 = .ok (.iload_n 3, 1) := by decide +kernel
theorem dPA_greatestReached_35 : decode cPA_greatestReached 35 = .ok (.invokestatic 49, 3) := by decide +kernel
theorem dPA_greatestReached_38 : decode cPA_greatestReached 38 = .ok (.istore 4, 2) := by decide +kernel
theorem dPA_greatestReached_40 : decode cPA_greatestReached 40 = .ok (.iinc 5 1, 3) := by decide +kernel
theorem dPA_greatestReached_43 : decode cPA_greatestReached 43 = .ok (.goto (-35), 3) := by decide +kernel
theorem dPA_greatestReached_46 : decode cPA_greatestReached 46 = .ok (.iload 4, 2) := by decide +kernel
theorem dPA_greatestReached_48 : decode cPA_greatestReached 48 = .ok (.ireturn, 1) := by decide +kernel
theorem dPE_init_0 : decode cPE_init 0 = .ok (.aload_n 0, 1) := by decide +kernel
theorem dPE_init_1 : decode cPE_init 1 = .ok (.invokespecial 3, 3) := by decide +kernel
theorem dPE_init_4 : decode cPE_init 4 = .ok (.aload_n 0, 1) := by decide +kernel
theorem dPE_init_5 : decode cPE_init 5 = .ok (.bipush 10, 2) := by decide +kernel
theorem dPE_init_7 : decode cPE_init 7 = .ok (.newarray .int, 2) := by decide +kernel
theorem dPE_init_9 : decode cPE_init 9 = .ok (.putfield 9, 3) := by decide +kernel
theorem dPE_init_12 : decode cPE_init 12 = .ok (.return_, 1) := by decide +kernel
theorem dPE_length_0 : decode cPE_length 0 = .ok (.iload_n 1, 1) := by decide +kernel
theorem dPE_length_1 : decode cPE_length 1 = .ok (.ireturn, 1) := by decide +kernel
theorem dPE_write_0 : decode cPE_write 0 = .ok (.iconst 0, 1) := by decide +kernel
theorem dPE_write_1 : decode cPE_write 1 = .ok (.istore_n 3, 1) := by decide +kernel
theorem dPE_write_2 : decode cPE_write 2 = .ok (.iconst 0, 1) := by decide +kernel
theorem dPE_write_3 : decode cPE_write 3 = .ok (.istore 4, 2) := by decide +kernel
theorem dPE_write_5 : decode cPE_write 5 = .ok (.iload 4, 2) := by decide +kernel
theorem dPE_write_7 : decode cPE_write 7 = .ok (.aload_n 1, 1) := by decide +kernel
theorem dPE_write_8 : decode cPE_write 8 = .ok (.invokevirtual 15, 3) := by decide +kernel
theorem dPE_write_11 : decode cPE_write 11 = .ok (.if_icmp .ge 38, 3) := by decide +kernel
theorem dPE_write_14 : decode cPE_write 14 = .ok (.aload_n 1, 1) := by decide +kernel
theorem dPE_write_15 : decode cPE_write 15 = .ok (.iload 4, 2) := by decide +kernel
theorem dPE_write_17 : decode cPE_write 17 = .ok (.invokevirtual 21, 3) := by decide +kernel
theorem dPE_write_20 : decode cPE_write 20 = .ok (.ifCond .eq 23, 3) := by decide +kernel
theorem dPE_write_23 : decode cPE_write 23 = .ok (.aload_n 2, 1) := by decide +kernel
theorem dPE_write_24 : decode cPE_write 24 = .ok (.iload_n 3, 1) := by decide +kernel
theorem dPE_write_25 : decode cPE_write 25 = .ok (.aload_n 1, 1) := by decide +kernel
theorem dPE_write_26 : decode cPE_write 26 = .ok (.aload_n 1, 1) := by decide +kernel
theorem dPE_write_27 : decode cPE_write 27 = .ok (.iload 4, 2) := by decide +kernel
theorem dPE_write_29 : decode cPE_write 29 = .ok (.iconst 1, 1) := by decide +kernel
theorem dPE_write_30 : decode cPE_write 30 = .ok (.iadd, 1) := by decide +kernel
theorem dPE_write_31 : decode cPE_write 31 = .ok (.invokevirtual 25, 3) := by decide +kernel
theorem dPE_write_34 : decode cPE_write 34 = .ok (.invokevirtual 29, 3) := by decide +kernel
theorem dPE_write_37 : decode cPE_write 37 = .ok (.iconst 1, 1) := by decide +kernel
theorem dPE_write_38 : decode cPE_write 38 = .ok (.iadd, 1) := by decide +kernel
theorem dPE_write_39 : decode cPE_write 39 = .ok (.iastore, 1) := by decide +kernel
theorem dPE_write_40 : decode cPE_write 40 = .ok (.iinc 3 1, 3) := by decide +kernel
theorem dPE_write_43 : decode cPE_write 43 = .ok (.iinc 4 1, 3) := by decide +kernel
theorem dPE_write_46 : decode cPE_write 46 = .ok (.goto (-41), 3) := by decide +kernel
theorem dPE_write_49 : decode cPE_write 49 = .ok (.return_, 1) := by decide +kernel
theorem dPE_read_0 : decode cPE_read 0 = .ok (.aload_n 2, 1) := by decide +kernel
theorem dPE_read_1 : decode cPE_read 1 = .ok (.invokevirtual 32, 3) := by decide +kernel
theorem dPE_read_4 : decode cPE_read 4 = .ok (.istore_n 3, 1) := by decide +kernel
theorem dPE_read_5 : decode cPE_read 5 = .ok (.aload_n 0, 1) := by decide +kernel
theorem dPE_read_6 : decode cPE_read 6 = .ok (.getfield 9, 3) := by decide +kernel
theorem dPE_read_9 : decode cPE_read 9 = .ok (.iconst 0, 1) := by decide +kernel
theorem dPE_read_10 : decode cPE_read 10 = .ok (.invokestatic 35, 3) := by decide +kernel
theorem dPE_read_13 : decode cPE_read 13 = .ok (.iconst 1, 1) := by decide +kernel
theorem dPE_read_14 : decode cPE_read 14 = .ok (.istore 4, 2) := by decide +kernel
theorem dPE_read_16 : decode cPE_read 16 = .ok (.iload 4, 2) := by decide +kernel
theorem dPE_read_18 : decode cPE_read 18 = .ok (.iload_n 3, 1) := by decide +kernel
theorem dPE_read_19 : decode cPE_read 19 = .ok (.if_icmp .gt 38, 3) := by decide +kernel
theorem dPE_read_22 : decode cPE_read 22 = .ok (.aload_n 1, 1) := by decide +kernel
theorem dPE_read_23 : decode cPE_read 23 = .ok (.iload 4, 2) := by decide +kernel
theorem dPE_read_25 : decode cPE_read 25 = .ok (.iconst 1, 1) := by decide +kernel
theorem dPE_read_26 : decode cPE_read 26 = .ok (.isub, 1) := by decide +kernel
theorem dPE_read_27 : decode cPE_read 27 = .ok (.iaload, 1) := by decide +kernel
theorem dPE_read_28 : decode cPE_read 28 = .ok (.istore 5, 2) := by decide +kernel
theorem dPE_read_30 : decode cPE_read 30 = .ok (.iload 5, 2) := by decide +kernel
theorem dPE_read_32 : decode cPE_read 32 = .ok (.iconst 1, 1) := by decide +kernel
theorem dPE_read_33 : decode cPE_read 33 = .ok (.if_icmp .lt 18, 3) := by decide +kernel
theorem dPE_read_36 : decode cPE_read 36 = .ok (.iload 5, 2) := by decide +kernel
theorem dPE_read_38 : decode cPE_read 38 = .ok (.iload_n 3, 1) := by decide +kernel
theorem dPE_read_39 : decode cPE_read 39 = .ok (.if_icmp .gt 12, 3) := by decide +kernel
theorem dPE_read_42 : decode cPE_read 42 = .ok (.aload_n 0, 1) := by decide +kernel
theorem dPE_read_43 : decode cPE_read 43 = .ok (.getfield 9, 3) := by decide +kernel
theorem dPE_read_46 : decode cPE_read 46 = .ok (.iload 5, 2) := by decide +kernel
theorem dPE_read_48 : decode cPE_read 48 = .ok (.iload 4, 2) := by decide +kernel
theorem dPE_read_50 : decode cPE_read 50 = .ok (.iastore, 1) := by decide +kernel
theorem dPE_read_51 : decode cPE_read 51 = .ok (.iinc 4 1, 3) := by decide +kernel
theorem dPE_read_54 : decode cPE_read 54 = .ok (.goto (-38), 3) := by decide +kernel
theorem dPE_read_57 : decode cPE_read 57 = .ok (.iconst 0, 1) := by decide +kernel
theorem dPE_read_58 : decode cPE_read 58 = .ok (.istore 4, 2) := by decide +kernel
theorem dPE_read_60 : decode cPE_read 60 = .ok (.iconst 1, 1) := by decide +kernel
theorem dPE_read_61 : decode cPE_read 61 = .ok (.istore 5, 2) := by decide +kernel
theorem dPE_read_63 : decode cPE_read 63 = .ok (.iload 5, 2) := by decide +kernel
theorem dPE_read_65 : decode cPE_read 65 = .ok (.iload_n 3, 1) := by decide +kernel
theorem dPE_read_66 : decode cPE_read 66 = .ok (.if_icmp .gt 29, 3) := by decide +kernel
theorem dPE_read_69 : decode cPE_read 69 = .ok (.iload 4, 2) := by decide +kernel
theorem dPE_read_71 : decode cPE_read 71 = .ok (.aload_n 0, 1) := by decide +kernel
theorem dPE_read_72 : decode cPE_read 72 = .ok (.getfield 9, 3) := by decide +kernel
theorem dPE_read_75 : decode cPE_read 75 = .ok (.iload 5, 2) := by decide +kernel
theorem dPE_read_77 : decode cPE_read 77 = .ok (.iaload, 1) := by decide +kernel
theorem dPE_read_78 : decode cPE_read 78 = .ok (.invokestatic 41, 3) := by decide +kernel
theorem dPE_read_81 : decode cPE_read 81 = .ok (.istore 4, 2) := by decide +kernel
theorem dPE_read_83 : decode cPE_read 83 = .ok (.aload_n 2, 1) := by decide +kernel
theorem dPE_read_84 : decode cPE_read 84 = .ok (.iload 4, 2) := by decide +kernel
theorem dPE_read_86 : decode cPE_read 86 = .ok (.invokevirtual 47, 3) := by decide +kernel
theorem dPE_read_89 : decode cPE_read 89 = .ok (.iinc 5 1, 3) := by decide +kernel
theorem dPE_read_92 : decode cPE_read 92 = .ok (.goto (-29), 3) := by decide +kernel
theorem dPE_read_95 : decode cPE_read 95 = .ok (.return_, 1) := by decide +kernel
theorem dPT_init_0 : decode cPT_init 0 = .ok (.aload_n 0, 1) := by decide +kernel
theorem dPT_init_1 : decode cPT_init 1 = .ok (.invokespecial 3, 3) := by decide +kernel
theorem dPT_init_4 : decode cPT_init 4 = .ok (.aload_n 0, 1) := by decide +kernel
theorem dPT_init_5 : decode cPT_init 5 = .ok (.bipush 10, 2) := by decide +kernel
theorem dPT_init_7 : decode cPT_init 7 = .ok (.newarray .int, 2) := by decide +kernel
theorem dPT_init_9 : decode cPT_init 9 = .ok (.putfield 9, 3) := by decide +kernel
theorem dPT_init_12 : decode cPT_init 12 = .ok (.return_, 1) := by decide +kernel
theorem dPT_length_0 : decode cPT_length 0 = .ok (.iload_n 1, 1) := by decide +kernel
theorem dPT_length_1 : decode cPT_length 1 = .ok (.iconst 1, 1) := by decide +kernel
theorem dPT_length_2 : decode cPT_length 2 = .ok (.iadd, 1) := by decide +kernel
theorem dPT_length_3 : decode cPT_length 3 = .ok (.ireturn, 1) := by decide +kernel
theorem dPT_write_0 : decode cPT_write 0 = .ok (.iconst 0, 1) := by decide +kernel
theorem dPT_write_1 : decode cPT_write 1 = .ok (.istore_n 3, 1) := by decide +kernel
theorem dPT_write_2 : decode cPT_write 2 = .ok (.iconst 0, 1) := by decide +kernel
theorem dPT_write_3 : decode cPT_write 3 = .ok (.istore 4, 2) := by decide +kernel
theorem dPT_write_5 : decode cPT_write 5 = .ok (.aload_n 2, 1) := by decide +kernel
theorem dPT_write_6 : decode cPT_write 6 = .ok (.iconst 0, 1) := by decide +kernel
theorem dPT_write_7 : decode cPT_write 7 = .ok (.iconst (-1), 1) := by decide +kernel
theorem dPT_write_8 : decode cPT_write 8 = .ok (.iastore, 1) := by decide +kernel
theorem dPT_write_9 : decode cPT_write 9 = .ok (.iconst 0, 1) := by decide +kernel
theorem dPT_write_10 : decode cPT_write 10 = .ok (.istore 5, 2) := by decide +kernel
theorem dPT_write_12 : decode cPT_write 12 = .ok (.iload 5, 2) := by decide +kernel
theorem dPT_write_14 : decode cPT_write 14 = .ok (.aload_n 1, 1) := by decide +kernel
theorem dPT_write_15 : decode cPT_write 15 = .ok (.invokevirtual 15, 3) := by decide +kernel
theorem dPT_write_18 : decode cPT_write 18 = .ok (.if_icmp .ge 36, 3) := by decide +kernel
theorem dPT_write_21 : decode cPT_write 21 = .ok (.aload_n 1, 1) := by decide +kernel
theorem dPT_write_22 : decode cPT_write 22 = .ok (.iload 5, 2) := by decide +kernel
theorem dPT_write_24 : decode cPT_write 24 = .ok (.invokevirtual 21, 3) := by decide +kernel
theorem dPT_write_27 : decode cPT_write 27 = .ok (.ifCond .eq 17, 3) := by decide +kernel
theorem dPT_write_30 : decode cPT_write 30 = .ok (.iinc 4 1, 3) := by decide +kernel
theorem dPT_write_33 : decode cPT_write 33 = .ok (.aload_n 2, 1) := by decide +kernel
theorem dPT_write_34 : decode cPT_write 34 = .ok (.iload 4, 2) := by decide +kernel
theorem dPT_write_36 : decode cPT_write 36 = .ok (.iload_n 3, 1) := by decide +kernel
theorem dPT_write_37 : decode cPT_write 37 = .ok (.iastore, 1) := by decide +kernel
theorem dPT_write_38 : decode cPT_write 38 = .ok (.iload 4, 2) := by decide +kernel
theorem dPT_write_40 : decode cPT_write 40 = .ok (.istore_n 3, 1) := by decide +kernel
theorem dPT_write_41 : decode cPT_write 41 = .ok (.goto 7, 3) := by decide +kernel
theorem dPT_write_44 : decode cPT_write 44 = .ok (.aload_n 2, 1) := by decide +kernel
theorem dPT_write_45 : decode cPT_write 45 = .ok (.iload_n 3, 1) := by decide +kernel
theorem dPT_write_46 : decode cPT_write 46 = .ok (.iaload, 1) := by decide +kernel
theorem dPT_write_47 : decode cPT_write 47 = .ok (.istore_n 3, 1) := by decide +kernel
theorem dPT_write_48 : decode cPT_write 48 = .ok (.iinc 5 1, 3) := by decide +kernel
theorem dPT_write_51 : decode cPT_write 51 = .ok (.goto (-39), 3) := by decide +kernel
theorem dPT_write_54 : decode cPT_write 54 = .ok (.return_, 1) := by decide +kernel
theorem dPT_read_0 : decode cPT_read 0 = .ok (.aload_n 2, 1) := by decide +kernel
theorem dPT_read_1 : decode cPT_read 1 = .ok (.invokevirtual 25, 3) := by decide +kernel
theorem dPT_read_4 : decode cPT_read 4 = .ok (.istore_n 3, 1) := by decide +kernel
theorem dPT_read_5 : decode cPT_read 5 = .ok (.iconst 0, 1) := by decide +kernel
theorem dPT_read_6 : decode cPT_read 6 = .ok (.istore 4, 2) := by decide +kernel
theorem dPT_read_8 : decode cPT_read 8 = .ok (.iload 4, 2) := by decide +kernel
theorem dPT_read_10 : decode cPT_read 10 = .ok (.iload_n 3, 1) := by decide +kernel
theorem dPT_read_11 : decode cPT_read 11 = .ok (.if_icmp .gt 18, 3) := by decide +kernel
theorem dPT_read_14 : decode cPT_read 14 = .ok (.aload_n 0, 1) := by decide +kernel
theorem dPT_read_15 : decode cPT_read 15 = .ok (.getfield 9, 3) := by decide +kernel
theorem dPT_read_18 : decode cPT_read 18 = .ok (.iload 4, 2) := by decide +kernel
theorem dPT_read_20 : decode cPT_read 20 = .ok (.iload 4, 2) := by decide +kernel
theorem dPT_read_22 : decode cPT_read 22 = .ok (.iastore, 1) := by decide +kernel
theorem dPT_read_23 : decode cPT_read 23 = .ok (.iinc 4 1, 3) := by decide +kernel
theorem dPT_read_26 : decode cPT_read 26 = .ok (.goto (-18), 3) := by decide +kernel
theorem dPT_read_29 : decode cPT_read 29 = .ok (.iload_n 3, 1) := by decide +kernel
theorem dPT_read_30 : decode cPT_read 30 = .ok (.istore 4, 2) := by decide +kernel
theorem dPT_read_32 : decode cPT_read 32 = .ok (.iload 4, 2) := by decide +kernel
theorem dPT_read_34 : decode cPT_read 34 = .ok (.iconst 1, 1) := by decide +kernel
theorem dPT_read_35 : decode cPT_read 35 = .ok (.if_icmp .lt 62, 3) := by decide +kernel
theorem dPT_read_38 : decode cPT_read 38 = .ok (.aload_n 1, 1) := by decide +kernel
theorem dPT_read_39 : decode cPT_read 39 = .ok (.iload 4, 2) := by decide +kernel
theorem dPT_read_41 : decode cPT_read 41 = .ok (.iaload, 1) := by decide +kernel
theorem dPT_read_42 : decode cPT_read 42 = .ok (.istore 5, 2) := by decide +kernel
theorem dPT_read_44 : decode cPT_read 44 = .ok (.iload 5, 2) := by decide +kernel
theorem dPT_read_46 : decode cPT_read 46 = .ok (.ifCond .lt 34, 3) := by decide +kernel
theorem dPT_read_49 : decode cPT_read 49 = .ok (.iload 5, 2) := by decide +kernel
theorem dPT_read_51 : decode cPT_read 51 = .ok (.iload 4, 2) := by decide +kernel
theorem dPT_read_53 : decode cPT_read 53 = .ok (.if_icmp .ge 27, 3) := by decide +kernel
theorem dPT_read_56 : decode cPT_read 56 = .ok (.aload_n 0, 1) := by decide +kernel
theorem dPT_read_57 : decode cPT_read 57 = .ok (.getfield 9, 3) := by decide +kernel
theorem dPT_read_60 : decode cPT_read 60 = .ok (.iload 5, 2) := by decide +kernel
theorem dPT_read_62 : decode cPT_read 62 = .ok (.aload_n 0, 1) := by decide +kernel
theorem dPT_read_63 : decode cPT_read 63 = .ok (.getfield 9, 3) := by decide +kernel
theorem dPT_read_66 : decode cPT_read 66 = .ok (.iload 5, 2) := by decide +kernel
theorem dPT_read_68 : decode cPT_read 68 = .ok (.iaload, 1) := by decide +kernel
theorem dPT_read_69 : decode cPT_read 69 = .ok (.aload_n 0, 1) := by decide +kernel
theorem dPT_read_70 : decode cPT_read 70 = .ok (.getfield 9, 3) := by decide +kernel
theorem dPT_read_73 : decode cPT_read 73 = .ok (.iload 4, 2) := by decide +kernel
theorem dPT_read_75 : decode cPT_read 75 = .ok (.iaload, 1) := by decide +kernel
theorem dPT_read_76 : decode cPT_read 76 = .ok (.invokestatic 28, 3) := by decide +kernel
theorem dPT_read_79 : decode cPT_read 79 = .ok (.iastore, 1) := by decide +kernel
theorem dPT_read_80 : decode cPT_read 80 = .ok (.aload_n 2, 1) := by decide +kernel
theorem dPT_read_81 : decode cPT_read 81 = .ok (.aload_n 0, 1) := by decide +kernel
theorem dPT_read_82 : decode cPT_read 82 = .ok (.getfield 9, 3) := by decide +kernel
theorem dPT_read_85 : decode cPT_read 85 = .ok (.iload 4, 2) := by decide +kernel
theorem dPT_read_87 : decode cPT_read 87 = .ok (.iaload, 1) := by decide +kernel
theorem dPT_read_88 : decode cPT_read 88 = .ok (.invokevirtual 34, 3) := by decide +kernel
theorem dPT_read_91 : decode cPT_read 91 = .ok (.iinc 4 (-1), 3) := by decide +kernel
theorem dPT_read_94 : decode cPT_read 94 = .ok (.goto (-62), 3) := by decide +kernel
theorem dPT_read_97 : decode cPT_read 97 = .ok (.return_, 1) := by decide +kernel
theorem dRK_init_0 : decode cRK_init 0 = .ok (.aload_n 0, 1) := by decide +kernel
theorem dRK_init_1 : decode cRK_init 1 = .ok (.invokespecial 3, 3) := by decide +kernel
theorem dRK_init_4 : decode cRK_init 4 = .ok (.aload_n 0, 1) := by decide +kernel
theorem dRK_init_5 : decode cRK_init 5 = .ok (.bipush 16, 2) := by decide +kernel
theorem dRK_init_7 : decode cRK_init 7 = .ok (.bipush 16, 2) := by decide +kernel
theorem dRK_init_9 : decode cRK_init 9 = .ok (.multianewarray 9 2, 4) := by decide +kernel
theorem dRK_init_13 : decode cRK_init 13 = .ok (.putfield 11, 3) := by decide +kernel
theorem dRK_init_16 : decode cRK_init 16 = .ok (.iconst 0, 1) := by decide +kernel
theorem dRK_init_17 : decode cRK_init 17 = .ok (.istore_n 1, 1) := by decide +kernel
theorem dRK_init_18 : decode cRK_init 18 = .ok (.iload_n 1, 1) := by decide +kernel
theorem dRK_init_19 : decode cRK_init 19 = .ok (.bipush 15, 2) := by decide +kernel
theorem dRK_init_21 : decode cRK_init 21 = .ok (.if_icmp .gt 60, 3) := by decide +kernel
theorem dRK_init_24 : decode cRK_init 24 = .ok (.aload_n 0, 1) := by decide +kernel
theorem dRK_init_25 : decode cRK_init 25 = .ok (.getfield 11, 3) := by decide +kernel
theorem dRK_init_28 : decode cRK_init 28 = .ok (.iload_n 1, 1) := by decide +kernel
theorem dRK_init_29 : decode cRK_init 29 = .ok (.aaload, 1) := by decide +kernel
theorem dRK_init_30 : decode cRK_init 30 = .ok (.iconst 0, 1) := by decide +kernel
theorem dRK_init_31 : decode cRK_init 31 = .ok (.iconst 1, 1) := by decide +kernel
theorem dRK_init_32 : decode cRK_init 32 = .ok (.iastore, 1) := by decide +kernel
theorem dRK_init_33 : decode cRK_init 33 = .ok (.iconst 1, 1) := by decide +kernel
theorem dRK_init_34 : decode cRK_init 34 = .ok (.istore_n 2, 1) := by decide +kernel
theorem dRK_init_35 : decode cRK_init 35 = .ok (.iload_n 2, 1) := by decide +kernel
theorem dRK_init_36 : decode cRK_init 36 = .ok (.iload_n 1, 1) := by decide +kernel
theorem dRK_init_37 : decode cRK_init 37 = .ok (.if_icmp .gt 38, 3) := by decide +kernel
theorem dRK_init_40 : decode cRK_init 40 = .ok (.aload_n 0, 1) := by decide +kernel
theorem dRK_init_41 : decode cRK_init 41 = .ok (.getfield 11, 3) := by decide +kernel
theorem dRK_init_44 : decode cRK_init 44 = .ok (.iload_n 1, 1) := by decide +kernel
theorem dRK_init_45 : decode cRK_init 45 = .ok (.aaload, 1) := by decide +kernel
theorem dRK_init_46 : decode cRK_init 46 = .ok (.iload_n 2, 1) := by decide +kernel
theorem dRK_init_47 : decode cRK_init 47 = .ok (.aload_n 0, 1) := by decide +kernel
theorem dRK_init_48 : decode cRK_init 48 = .ok (.getfield 11, 3) := by decide +kernel
theorem dRK_init_51 : decode cRK_init 51 = .ok (.iload_n 1, 1) := by decide +kernel
theorem dRK_init_52 : decode cRK_init 52 = .ok (.aaload, 1) := by decide +kernel
theorem dRK_init_53 : decode cRK_init 53 = .ok (.iload_n 2, 1) := by decide +kernel
theorem dRK_init_54 : decode cRK_init 54 = .ok (.iconst 1, 1) := by decide +kernel
theorem dRK_init_55 : decode cRK_init 55 = .ok (.isub, 1) := by decide +kernel
theorem dRK_init_56 : decode cRK_init 56 = .ok (.iaload, 1) := by decide +kernel
theorem dRK_init_57 : decode cRK_init 57 = .ok (.aload_n 0, 1) := by decide +kernel
theorem dRK_init_58 : decode cRK_init 58 = .ok (.getfield 11, 3) := by decide +kernel
theorem dRK_init_61 : decode cRK_init 61 = .ok (.iload_n 1, 1) := by decide +kernel
theorem dRK_init_62 : decode cRK_init 62 = .ok (.iconst 1, 1) := by decide +kernel
theorem dRK_init_63 : decode cRK_init 63 = .ok (.isub, 1) := by decide +kernel
theorem dRK_init_64 : decode cRK_init 64 = .ok (.aaload, 1) := by decide +kernel
theorem dRK_init_65 : decode cRK_init 65 = .ok (.iload_n 2, 1) := by decide +kernel
theorem dRK_init_66 : decode cRK_init 66 = .ok (.iaload, 1) := by decide +kernel
theorem dRK_init_67 : decode cRK_init 67 = .ok (.iadd, 1) := by decide +kernel
theorem dRK_init_68 : decode cRK_init 68 = .ok (.iastore, 1) := by decide +kernel
theorem dRK_init_69 : decode cRK_init 69 = .ok (.iinc 2 1, 3) := by decide +kernel
theorem dRK_init_72 : decode cRK_init 72 = .ok (.goto (-37), 3) := by decide +kernel
theorem dRK_init_75 : decode cRK_init 75 = .ok (.iinc 1 1, 3) := by decide +kernel
theorem dRK_init_78 : decode cRK_init 78 = .ok (.goto (-60), 3) := by decide +kernel
theorem dRK_init_81 : decode cRK_init 81 = .ok (.return_, 1) := by decide +kernel
theorem dRK_count_0 : decode cRK_count 0 = .ok (.aload_n 0, 1) := by decide +kernel
theorem dRK_count_1 : decode cRK_count 1 = .ok (.getfield 11, 3) := by decide +kernel
theorem dRK_count_4 : decode cRK_count 4 = .ok (.iload_n 1, 1) := by decide +kernel
theorem dRK_count_5 : decode cRK_count 5 = .ok (.aaload, 1) := by decide +kernel
theorem dRK_count_6 : decode cRK_count 6 = .ok (.iload_n 2, 1) := by decide +kernel
theorem dRK_count_7 : decode cRK_count 7 = .ok (.iaload, 1) := by decide +kernel
theorem dRK_count_8 : decode cRK_count 8 = .ok (.ireturn, 1) := by decide +kernel
theorem dRK_words_0 : decode cRK_words 0 = .ok (.aload_n 0, 1) := by decide +kernel
theorem dRK_words_1 : decode cRK_words 1 = .ok (.getfield 11, 3) := by decide +kernel
theorem dRK_words_4 : decode cRK_words 4 = .ok (.iload_n 1, 1) := by decide +kernel
theorem dRK_words_5 : decode cRK_words 5 = .ok (.aaload, 1) := by decide +kernel
theorem dRK_words_6 : decode cRK_words 6 = .ok (.iload_n 1, 1) := by decide +kernel
theorem dRK_words_7 : decode cRK_words 7 = .ok (.iaload, 1) := by decide +kernel
theorem dRK_words_8 : decode cRK_words 8 = .ok (.ireturn, 1) := by decide +kernel
theorem dRK_of_0 : decode cRK_of 0 = .ok (.aload_n 1, 1) := by decide +kernel
theorem dRK_of_1 : decode cRK_of 1 = .ok (.invokevirtual 16, 3) := by decide +kernel
theorem dRK_of_4 : decode cRK_of 4 = .ok (.istore_n 2, 1) := by decide +kernel
theorem dRK_of_5 : decode cRK_of 5 = .ok (.aload_n 1, 1) := by decide +kernel
theorem dRK_of_6 : decode cRK_of 6 = .ok (.invokevirtual 16, 3) := by decide +kernel
theorem dRK_of_9 : decode cRK_of 9 = .ok (.istore_n 3, 1) := by decide +kernel
theorem dRK_of_10 : decode cRK_of 10 = .ok (.iconst 0, 1) := by decide +kernel
theorem dRK_of_11 : decode cRK_of 11 = .ok (.istore 4, 2) := by decide +kernel
theorem dRK_of_13 : decode cRK_of 13 = .ok (.iconst 0, 1) := by decide +kernel
theorem dRK_of_14 : decode cRK_of 14 = .ok (.istore 5, 2) := by decide +kernel
theorem dRK_of_16 : decode cRK_of 16 = .ok (.iload 5, 2) := by decide +kernel
theorem dRK_of_18 : decode cRK_of 18 = .ok (.aload_n 1, 1) := by decide +kernel
theorem dRK_of_19 : decode cRK_of 19 = .ok (.invokevirtual 22, 3) := by decide +kernel
theorem dRK_of_22 : decode cRK_of 22 = .ok (.if_icmp .ge 38, 3) := by decide +kernel
theorem dRK_of_25 : decode cRK_of 25 = .ok (.aload_n 1, 1) := by decide +kernel
theorem dRK_of_26 : decode cRK_of 26 = .ok (.iload 5, 2) := by decide +kernel
theorem dRK_of_28 : decode cRK_of 28 = .ok (.invokevirtual 25, 3) := by decide +kernel
theorem dRK_of_31 : decode cRK_of 31 = .ok (.ifCond .eq 9, 3) := by decide +kernel
theorem dRK_of_34 : decode cRK_of 34 = .ok (.iinc 2 (-1), 3) := by decide +kernel
theorem dRK_of_37 : decode cRK_of 37 = .ok (.goto 17, 3) := by decide +kernel
theorem dRK_of_40 : decode cRK_of 40 = .ok (.iload 4, 2) := by decide +kernel
theorem dRK_of_42 : decode cRK_of 42 = .ok (.aload_n 0, 1) := by decide +kernel
theorem dRK_of_43 : decode cRK_of 43 = .ok (.iload_n 2, 1) := by decide +kernel
theorem dRK_of_44 : decode cRK_of 44 = .ok (.iload_n 3, 1) := by decide +kernel
theorem dRK_of_45 : decode cRK_of 45 = .ok (.invokevirtual 29, 3) := by decide +kernel
theorem dRK_of_48 : decode cRK_of 48 = .ok (.iadd, 1) := by decide +kernel
theorem dRK_of_49 : decode cRK_of 49 = .ok (.istore 4, 2) := by decide +kernel
theorem dRK_of_51 : decode cRK_of 51 = .ok (.iinc 3 (-1), 3) := by decide +kernel
theorem dRK_of_54 : decode cRK_of 54 = .ok (.iinc 5 1, 3) := by decide +kernel
theorem dRK_of_57 : decode cRK_of 57 = .ok (.goto (-41), 3) := by decide +kernel
theorem dRK_of_60 : decode cRK_of 60 = .ok (.iload 4, 2) := by decide +kernel
theorem dRK_of_62 : decode cRK_of 62 = .ok (.ireturn, 1) := by decide +kernel
theorem dRK_seek_0 : decode cRK_seek 0 = .ok (.iload_n 2, 1) := by decide +kernel
theorem dRK_seek_1 : decode cRK_seek 1 = .ok (.istore 4, 2) := by decide +kernel
theorem dRK_seek_3 : decode cRK_seek 3 = .ok (.iload_n 2, 1) := by decide +kernel
theorem dRK_seek_4 : decode cRK_seek 4 = .ok (.istore 5, 2) := by decide +kernel
theorem dRK_seek_6 : decode cRK_seek 6 = .ok (.iload_n 3, 1) := by decide +kernel
theorem dRK_seek_7 : decode cRK_seek 7 = .ok (.istore 6, 2) := by decide +kernel
theorem dRK_seek_9 : decode cRK_seek 9 = .ok (.aload_n 1, 1) := by decide +kernel
theorem dRK_seek_10 : decode cRK_seek 10 = .ok (.iload_n 2, 1) := by decide +kernel
theorem dRK_seek_11 : decode cRK_seek 11 = .ok (.invokevirtual 33, 3) := by decide +kernel
theorem dRK_seek_14 : decode cRK_seek 14 = .ok (.iconst 0, 1) := by decide +kernel
theorem dRK_seek_15 : decode cRK_seek 15 = .ok (.istore 7, 2) := by decide +kernel
theorem dRK_seek_17 : decode cRK_seek 17 = .ok (.iload 7, 2) := by decide +kernel
theorem dRK_seek_19 : decode cRK_seek 19 = .ok (.iconst 2, 1) := by decide +kernel
theorem dRK_seek_20 : decode cRK_seek 20 = .ok (.iload_n 2, 1) := by decide +kernel
theorem dRK_seek_21 : decode cRK_seek 21 = .ok (.imul, 1) := by decide +kernel
theorem dRK_seek_22 : decode cRK_seek 22 = .ok (.if_icmp .ge 50, 3) := by decide +kernel
theorem dRK_seek_25 : decode cRK_seek 25 = .ok (.aload_n 0, 1) := by decide +kernel
theorem dRK_seek_26 : decode cRK_seek 26 = .ok (.iload 4, 2) := by decide +kernel
theorem dRK_seek_28 : decode cRK_seek 28 = .ok (.iload 5, 2) := by decide +kernel
theorem dRK_seek_30 : decode cRK_seek 30 = .ok (.invokevirtual 29, 3) := by decide +kernel
theorem dRK_seek_33 : decode cRK_seek 33 = .ok (.istore 8, 2) := by decide +kernel
theorem dRK_seek_35 : decode cRK_seek 35 = .ok (.iload 6, 2) := by decide +kernel
theorem dRK_seek_37 : decode cRK_seek 37 = .ok (.iload 8, 2) := by decide +kernel
theorem dRK_seek_39 : decode cRK_seek 39 = .ok (.if_icmp .ge 9, 3) := by decide +kernel
theorem dRK_seek_42 : decode cRK_seek 42 = .ok (.iinc 4 (-1), 3) := by decide +kernel
theorem dRK_seek_45 : decode cRK_seek 45 = .ok (.goto 21, 3) := by decide +kernel
theorem dRK_seek_48 : decode cRK_seek 48 = .ok (.iload 6, 2) := by decide +kernel
theorem dRK_seek_50 : decode cRK_seek 50 = .ok (.iload 8, 2) := by decide +kernel
theorem dRK_seek_52 : decode cRK_seek 52 = .ok (.isub, 1) := by decide +kernel
theorem dRK_seek_53 : decode cRK_seek 53 = .ok (.istore 6, 2) := by decide +kernel
theorem dRK_seek_55 : decode cRK_seek 55 = .ok (.iinc 5 (-1), 3) := by decide +kernel
theorem dRK_seek_58 : decode cRK_seek 58 = .ok (.aload_n 1, 1) := by decide +kernel
theorem dRK_seek_59 : decode cRK_seek 59 = .ok (.iload_n 2, 1) := by decide +kernel
theorem dRK_seek_60 : decode cRK_seek 60 = .ok (.iload 4, 2) := by decide +kernel
theorem dRK_seek_62 : decode cRK_seek 62 = .ok (.isub, 1) := by decide +kernel
theorem dRK_seek_63 : decode cRK_seek 63 = .ok (.invokevirtual 37, 3) := by decide +kernel
theorem dRK_seek_66 : decode cRK_seek 66 = .ok (.iinc 7 1, 3) := by decide +kernel
theorem dRK_seek_69 : decode cRK_seek 69 = .ok (.goto (-52), 3) := by decide +kernel
theorem dRK_seek_72 : decode cRK_seek 72 = .ok (.aload_n 1, 1) := by decide +kernel
theorem dRK_seek_73 : decode cRK_seek 73 = .ok (.invokevirtual 40, 3) := by decide +kernel
theorem dRK_seek_76 : decode cRK_seek 76 = .ok (.pop, 1) := by decide +kernel
theorem dRK_seek_77 : decode cRK_seek 77 = .ok (.return_, 1) := by decide +kernel
theorem dRK_endingsWithOneFirst_0 : decode cRK_endingsWithOneFirst 0 = .ok (.iload_n 1, 1) := by decide +kernel
theorem dRK_endingsWithOneFirst_1 : decode cRK_endingsWithOneFirst 1 = .ok (.ifCond .ne 7, 3) := by decide +kernel
theorem dRK_endingsWithOneFirst_4 : decode cRK_endingsWithOneFirst 4 = .ok (.iconst 0, 1) := by decide +kernel
theorem dRK_endingsWithOneFirst_5 : decode cRK_endingsWithOneFirst 5 = .ok (.goto 13, 3) := by decide +kernel
theorem dRK_endingsWithOneFirst_8 : decode cRK_endingsWithOneFirst 8 = .ok (.aload_n 0, 1) := by decide +kernel
theorem dRK_endingsWithOneFirst_9 : decode cRK_endingsWithOneFirst 9 = .ok (.getfield 11, 3) := by decide +kernel
theorem dRK_endingsWithOneFirst_12 : decode cRK_endingsWithOneFirst 12 = .ok (.iload_n 2, 1) := by decide +kernel
theorem dRK_endingsWithOneFirst_13 : decode cRK_endingsWithOneFirst 13 = .ok (.aaload, 1) := by decide +kernel
theorem dRK_endingsWithOneFirst_14 : decode cRK_endingsWithOneFirst 14 = .ok (.iload_n 1, 1) := by decide +kernel
theorem dRK_endingsWithOneFirst_15 : decode cRK_endingsWithOneFirst 15 = .ok (.iconst 1, 1) := by decide +kernel
theorem dRK_endingsWithOneFirst_16 : decode cRK_endingsWithOneFirst 16 = .ok (.isub, 1) := by decide +kernel
theorem dRK_endingsWithOneFirst_17 : decode cRK_endingsWithOneFirst 17 = .ok (.iaload, 1) := by decide +kernel
theorem dRK_endingsWithOneFirst_18 : decode cRK_endingsWithOneFirst 18 = .ok (.ireturn, 1) := by decide +kernel
theorem dTR_init_0 : decode cTR_init 0 = .ok (.aload_n 0, 1) := by decide +kernel
theorem dTR_init_1 : decode cTR_init 1 = .ok (.invokespecial 3, 3) := by decide +kernel
theorem dTR_init_4 : decode cTR_init 4 = .ok (.aload_n 0, 1) := by decide +kernel
theorem dTR_init_5 : decode cTR_init 5 = .ok (.bipush 9, 2) := by decide +kernel
theorem dTR_init_7 : decode cTR_init 7 = .ok (.newarray .int, 2) := by decide +kernel
theorem dTR_init_9 : decode cTR_init 9 = .ok (.putfield 9, 3) := by decide +kernel
theorem dTR_init_12 : decode cTR_init 12 = .ok (.aload_n 0, 1) := by decide +kernel
theorem dTR_init_13 : decode cTR_init 13 = .ok (.bipush 9, 2) := by decide +kernel
theorem dTR_init_15 : decode cTR_init 15 = .ok (.newarray .int, 2) := by decide +kernel
theorem dTR_init_17 : decode cTR_init 17 = .ok (.putfield 15, 3) := by decide +kernel
theorem dTR_init_20 : decode cTR_init 20 = .ok (.aload_n 0, 1) := by decide +kernel
theorem dTR_init_21 : decode cTR_init 21 = .ok (.iconst 0, 1) := by decide +kernel
theorem dTR_init_22 : decode cTR_init 22 = .ok (.putfield 18, 3) := by decide +kernel
theorem dTR_init_25 : decode cTR_init 25 = .ok (.return_, 1) := by decide +kernel
theorem dTR_length_0 : decode cTR_length 0 = .ok (.iconst 2, 1) := by decide +kernel
theorem dTR_length_1 : decode cTR_length 1 = .ok (.iload_n 1, 1) := by decide +kernel
theorem dTR_length_2 : decode cTR_length 2 = .ok (.imul, 1) := by decide +kernel
theorem dTR_length_3 : decode cTR_length 3 = .ok (.iconst 2, 1) := by decide +kernel
theorem dTR_length_4 : decode cTR_length 4 = .ok (.isub, 1) := by decide +kernel
theorem dTR_length_5 : decode cTR_length 5 = .ok (.ireturn, 1) := by decide +kernel
theorem dTR_write_0 : decode cTR_write 0 = .ok (.aload_n 0, 1) := by decide +kernel
theorem dTR_write_1 : decode cTR_write 1 = .ok (.aload_n 1, 1) := by decide +kernel
theorem dTR_write_2 : decode cTR_write 2 = .ok (.invokevirtual 22, 3) := by decide +kernel
theorem dTR_write_5 : decode cTR_write 5 = .ok (.iconst 0, 1) := by decide +kernel
theorem dTR_write_6 : decode cTR_write 6 = .ok (.istore_n 3, 1) := by decide +kernel
theorem dTR_write_7 : decode cTR_write 7 = .ok (.iload_n 3, 1) := by decide +kernel
theorem dTR_write_8 : decode cTR_write 8 = .ok (.aload_n 0, 1) := by decide +kernel
theorem dTR_write_9 : decode cTR_write 9 = .ok (.getfield 18, 3) := by decide +kernel
theorem dTR_write_12 : decode cTR_write 12 = .ok (.if_icmp .ge 33, 3) := by decide +kernel
theorem dTR_write_15 : decode cTR_write 15 = .ok (.aload_n 2, 1) := by decide +kernel
theorem dTR_write_16 : decode cTR_write 16 = .ok (.iconst 2, 1) := by decide +kernel
theorem dTR_write_17 : decode cTR_write 17 = .ok (.iload_n 3, 1) := by decide +kernel
theorem dTR_write_18 : decode cTR_write 18 = .ok (.imul, 1) := by decide +kernel
theorem dTR_write_19 : decode cTR_write 19 = .ok (.aload_n 0, 1) := by decide +kernel
theorem dTR_write_20 : decode cTR_write 20 = .ok (.getfield 9, 3) := by decide +kernel
theorem dTR_write_23 : decode cTR_write 23 = .ok (.iload_n 3, 1) := by decide +kernel
theorem dTR_write_24 : decode cTR_write 24 = .ok (.iaload, 1) := by decide +kernel
theorem dTR_write_25 : decode cTR_write 25 = .ok (.iastore, 1) := by decide +kernel
theorem dTR_write_26 : decode cTR_write 26 = .ok (.aload_n 2, 1) := by decide +kernel
theorem dTR_write_27 : decode cTR_write 27 = .ok (.iconst 2, 1) := by decide +kernel
theorem dTR_write_28 : decode cTR_write 28 = .ok (.iload_n 3, 1) := by decide +kernel
theorem dTR_write_29 : decode cTR_write 29 = .ok (.imul, 1) := by decide +kernel
theorem dTR_write_30 : decode cTR_write 30 = .ok (.iconst 1, 1) := by decide +kernel
theorem dTR_write_31 : decode cTR_write 31 = .ok (.iadd, 1) := by decide +kernel
theorem dTR_write_32 : decode cTR_write 32 = .ok (.aload_n 0, 1) := by decide +kernel
theorem dTR_write_33 : decode cTR_write 33 = .ok (.getfield 15, 3) := by decide +kernel
theorem dTR_write_36 : decode cTR_write 36 = .ok (.iload_n 3, 1) := by decide +kernel
theorem dTR_write_37 : decode cTR_write 37 = .ok (.iaload, 1) := by decide +kernel
theorem dTR_write_38 : decode cTR_write 38 = .ok (.iastore, 1) := by decide +kernel
theorem dTR_write_39 : decode cTR_write 39 = .ok (.iinc 3 1, 3) := by decide +kernel
theorem dTR_write_42 : decode cTR_write 42 = .ok (.goto (-35), 3) := by decide +kernel
theorem dTR_write_45 : decode cTR_write 45 = .ok (.return_, 1) := by decide +kernel
theorem dTR_read_0 : decode cTR_read 0 = .ok (.aload_n 0, 1) := by decide +kernel
theorem dTR_read_1 : decode cTR_read 1 = .ok (.aload_n 2, 1) := by decide +kernel
theorem dTR_read_2 : decode cTR_read 2 = .ok (.invokevirtual 26, 3) := by decide +kernel
theorem dTR_read_5 : decode cTR_read 5 = .ok (.iconst 1, 1) := by decide +kernel
theorem dTR_read_6 : decode cTR_read 6 = .ok (.isub, 1) := by decide +kernel
theorem dTR_read_7 : decode cTR_read 7 = .ok (.putfield 18, 3) := by decide +kernel
theorem dTR_read_10 : decode cTR_read 10 = .ok (.iconst 0, 1) := by decide +kernel
theorem dTR_read_11 : decode cTR_read 11 = .ok (.istore_n 3, 1) := by decide +kernel
theorem dTR_read_12 : decode cTR_read 12 = .ok (.iload_n 3, 1) := by decide +kernel
theorem dTR_read_13 : decode cTR_read 13 = .ok (.aload_n 0, 1) := by decide +kernel
theorem dTR_read_14 : decode cTR_read 14 = .ok (.getfield 18, 3) := by decide +kernel
theorem dTR_read_17 : decode cTR_read 17 = .ok (.if_icmp .ge 33, 3) := by decide +kernel
theorem dTR_read_20 : decode cTR_read 20 = .ok (.aload_n 0, 1) := by decide +kernel
theorem dTR_read_21 : decode cTR_read 21 = .ok (.getfield 9, 3) := by decide +kernel
theorem dTR_read_24 : decode cTR_read 24 = .ok (.iload_n 3, 1) := by decide +kernel
theorem dTR_read_25 : decode cTR_read 25 = .ok (.aload_n 1, 1) := by decide +kernel
theorem dTR_read_26 : decode cTR_read 26 = .ok (.iconst 2, 1) := by decide +kernel
theorem dTR_read_27 : decode cTR_read 27 = .ok (.iload_n 3, 1) := by decide +kernel
theorem dTR_read_28 : decode cTR_read 28 = .ok (.imul, 1) := by decide +kernel
theorem dTR_read_29 : decode cTR_read 29 = .ok (.iaload, 1) := by decide +kernel
theorem dTR_read_30 : decode cTR_read 30 = .ok (.iastore, 1) := by decide +kernel
theorem dTR_read_31 : decode cTR_read 31 = .ok (.aload_n 0, 1) := by decide +kernel
theorem dTR_read_32 : decode cTR_read 32 = .ok (.getfield 15, 3) := by decide +kernel
theorem dTR_read_35 : decode cTR_read 35 = .ok (.iload_n 3, 1) := by decide +kernel
theorem dTR_read_36 : decode cTR_read 36 = .ok (.aload_n 1, 1) := by decide +kernel
theorem dTR_read_37 : decode cTR_read 37 = .ok (.iconst 2, 1) := by decide +kernel
theorem dTR_read_38 : decode cTR_read 38 = .ok (.iload_n 3, 1) := by decide +kernel
theorem dTR_read_39 : decode cTR_read 39 = .ok (.imul, 1) := by decide +kernel
theorem dTR_read_40 : decode cTR_read 40 = .ok (.iconst 1, 1) := by decide +kernel
theorem dTR_read_41 : decode cTR_read 41 = .ok (.iadd, 1) := by decide +kernel
theorem dTR_read_42 : decode cTR_read 42 = .ok (.iaload, 1) := by decide +kernel
theorem dTR_read_43 : decode cTR_read 43 = .ok (.iastore, 1) := by decide +kernel
theorem dTR_read_44 : decode cTR_read 44 = .ok (.iinc 3 1, 3) := by decide +kernel
theorem dTR_read_47 : decode cTR_read 47 = .ok (.goto (-35), 3) := by decide +kernel
theorem dTR_read_50 : decode cTR_read 50 = .ok (.aload_n 0, 1) := by decide +kernel
theorem dTR_read_51 : decode cTR_read 51 = .ok (.aload_n 2, 1) := by decide +kernel
theorem dTR_read_52 : decode cTR_read 52 = .ok (.invokevirtual 32, 3) := by decide +kernel
theorem dTR_read_55 : decode cTR_read 55 = .ok (.return_, 1) := by decide +kernel
theorem dTR_draw_0 : decode cTR_draw 0 = .ok (.aload_n 0, 1) := by decide +kernel
theorem dTR_draw_1 : decode cTR_draw 1 = .ok (.iconst 0, 1) := by decide +kernel
theorem dTR_draw_2 : decode cTR_draw 2 = .ok (.putfield 18, 3) := by decide +kernel
theorem dTR_draw_5 : decode cTR_draw 5 = .ok (.iconst 0, 1) := by decide +kernel
theorem dTR_draw_6 : decode cTR_draw 6 = .ok (.istore_n 2, 1) := by decide +kernel
theorem dTR_draw_7 : decode cTR_draw 7 = .ok (.iconst 0, 1) := by decide +kernel
theorem dTR_draw_8 : decode cTR_draw 8 = .ok (.istore_n 3, 1) := by decide +kernel
theorem dTR_draw_9 : decode cTR_draw 9 = .ok (.iload_n 3, 1) := by decide +kernel
theorem dTR_draw_10 : decode cTR_draw 10 = .ok (.aload_n 1, 1) := by decide +kernel
theorem dTR_draw_11 : decode cTR_draw 11 = .ok (.invokevirtual 35, 3) := by decide +kernel
theorem dTR_draw_14 : decode cTR_draw 14 = .ok (.if_icmp .ge 43, 3) := by decide +kernel
theorem dTR_draw_17 : decode cTR_draw 17 = .ok (.aload_n 1, 1) := by decide +kernel
theorem dTR_draw_18 : decode cTR_draw 18 = .ok (.iload_n 3, 1) := by decide +kernel
theorem dTR_draw_19 : decode cTR_draw 19 = .ok (.invokevirtual 38, 3) := by decide +kernel
theorem dTR_draw_22 : decode cTR_draw 22 = .ok (.ifCond .ne 9, 3) := by decide +kernel
theorem dTR_draw_25 : decode cTR_draw 25 = .ok (.iinc 2 1, 3) := by decide +kernel
theorem dTR_draw_28 : decode cTR_draw 28 = .ok (.goto 23, 3) := by decide +kernel
theorem dTR_draw_31 : decode cTR_draw 31 = .ok (.iload_n 3, 1) := by decide +kernel
theorem dTR_draw_32 : decode cTR_draw 32 = .ok (.ifCond .le 19, 3) := by decide +kernel
theorem dTR_draw_35 : decode cTR_draw 35 = .ok (.aload_n 0, 1) := by decide +kernel
theorem dTR_draw_36 : decode cTR_draw 36 = .ok (.iload_n 2, 1) := by decide +kernel
theorem dTR_draw_37 : decode cTR_draw 37 = .ok (.aload_n 1, 1) := by decide +kernel
theorem dTR_draw_38 : decode cTR_draw 38 = .ok (.aload_n 1, 1) := by decide +kernel
theorem dTR_draw_39 : decode cTR_draw 39 = .ok (.iload_n 3, 1) := by decide +kernel
theorem dTR_draw_40 : decode cTR_draw 40 = .ok (.invokevirtual 42, 3) := by decide +kernel
theorem dTR_draw_43 : decode cTR_draw 43 = .ok (.invokevirtual 46, 3) := by decide +kernel
theorem dTR_draw_46 : decode cTR_draw 46 = .ok (.iconst 1, 1) := by decide +kernel
theorem dTR_draw_47 : decode cTR_draw 47 = .ok (.iadd, 1) := by decide +kernel
theorem dTR_draw_48 : decode cTR_draw 48 = .ok (.invokevirtual 49, 3) := by decide +kernel
theorem dTR_draw_51 : decode cTR_draw 51 = .ok (.iinc 3 1, 3) := by decide +kernel
theorem dTR_draw_54 : decode cTR_draw 54 = .ok (.goto (-45), 3) := by decide +kernel
theorem dTR_draw_57 : decode cTR_draw 57 = .ok (.return_, 1) := by decide +kernel
theorem dTR_insert_0 : decode cTR_insert 0 = .ok (.aload_n 0, 1) := by decide +kernel
theorem dTR_insert_1 : decode cTR_insert 1 = .ok (.getfield 18, 3) := by decide +kernel
theorem dTR_insert_4 : decode cTR_insert 4 = .ok (.istore_n 3, 1) := by decide +kernel
theorem dTR_insert_5 : decode cTR_insert 5 = .ok (.iload_n 3, 1) := by decide +kernel
theorem dTR_insert_6 : decode cTR_insert 6 = .ok (.ifCond .le 49, 3) := by decide +kernel
theorem dTR_insert_9 : decode cTR_insert 9 = .ok (.aload_n 0, 1) := by decide +kernel
theorem dTR_insert_10 : decode cTR_insert 10 = .ok (.iload_n 3, 1) := by decide +kernel
theorem dTR_insert_11 : decode cTR_insert 11 = .ok (.iconst 1, 1) := by decide +kernel
theorem dTR_insert_12 : decode cTR_insert 12 = .ok (.isub, 1) := by decide +kernel
theorem dTR_insert_13 : decode cTR_insert 13 = .ok (.iload_n 1, 1) := by decide +kernel
theorem dTR_insert_14 : decode cTR_insert 14 = .ok (.iload_n 2, 1) := by decide +kernel
theorem dTR_insert_15 : decode cTR_insert 15 = .ok (.invokevirtual 53, 3) := by decide +kernel
theorem dTR_insert_18 : decode cTR_insert 18 = .ok (.ifCond .eq 37, 3) := by decide +kernel
theorem dTR_insert_21 : decode cTR_insert 21 = .ok (.aload_n 0, 1) := by decide +kernel
theorem dTR_insert_22 : decode cTR_insert 22 = .ok (.getfield 9, 3) := by decide +kernel
theorem dTR_insert_25 : decode cTR_insert 25 = .ok (.iload_n 3, 1) := by decide +kernel
theorem dTR_insert_26 : decode cTR_insert 26 = .ok (.aload_n 0, 1) := by decide +kernel
theorem dTR_insert_27 : decode cTR_insert 27 = .ok (.getfield 9, 3) := by decide +kernel
theorem dTR_insert_30 : decode cTR_insert 30 = .ok (.iload_n 3, 1) := by decide +kernel
theorem dTR_insert_31 : decode cTR_insert 31 = .ok (.iconst 1, 1) := by decide +kernel
theorem dTR_insert_32 : decode cTR_insert 32 = .ok (.isub, 1) := by decide +kernel
theorem dTR_insert_33 : decode cTR_insert 33 = .ok (.iaload, 1) := by decide +kernel
theorem dTR_insert_34 : decode cTR_insert 34 = .ok (.iastore, 1) := by decide +kernel
theorem dTR_insert_35 : decode cTR_insert 35 = .ok (.aload_n 0, 1) := by decide +kernel
theorem dTR_insert_36 : decode cTR_insert 36 = .ok (.getfield 15, 3) := by decide +kernel
theorem dTR_insert_39 : decode cTR_insert 39 = .ok (.iload_n 3, 1) := by decide +kernel
theorem dTR_insert_40 : decode cTR_insert 40 = .ok (.aload_n 0, 1) := by decide +kernel
theorem dTR_insert_41 : decode cTR_insert 41 = .ok (.getfield 15, 3) := by decide +kernel
theorem dTR_insert_44 : decode cTR_insert 44 = .ok (.iload_n 3, 1) := by decide +kernel
theorem dTR_insert_45 : decode cTR_insert 45 = .ok (.iconst 1, 1) := by decide +kernel
theorem dTR_insert_46 : decode cTR_insert 46 = .ok (.isub, 1) := by decide +kernel
theorem dTR_insert_47 : decode cTR_insert 47 = .ok (.iaload, 1) := by decide +kernel
theorem dTR_insert_48 : decode cTR_insert 48 = .ok (.iastore, 1) := by decide +kernel
theorem dTR_insert_49 : decode cTR_insert 49 = .ok (.iinc 3 (-1), 3) := by decide +kernel
theorem dTR_insert_52 : decode cTR_insert 52 = .ok (.goto (-47), 3) := by decide +kernel
theorem dTR_insert_55 : decode cTR_insert 55 = .ok (.aload_n 0, 1) := by decide +kernel
theorem dTR_insert_56 : decode cTR_insert 56 = .ok (.getfield 9, 3) := by decide +kernel
theorem dTR_insert_59 : decode cTR_insert 59 = .ok (.iload_n 3, 1) := by decide +kernel
theorem dTR_insert_60 : decode cTR_insert 60 = .ok (.iload_n 1, 1) := by decide +kernel
theorem dTR_insert_61 : decode cTR_insert 61 = .ok (.iastore, 1) := by decide +kernel
theorem dTR_insert_62 : decode cTR_insert 62 = .ok (.aload_n 0, 1) := by decide +kernel
theorem dTR_insert_63 : decode cTR_insert 63 = .ok (.getfield 15, 3) := by decide +kernel
theorem dTR_insert_66 : decode cTR_insert 66 = .ok (.iload_n 3, 1) := by decide +kernel
theorem dTR_insert_67 : decode cTR_insert 67 = .ok (.iload_n 2, 1) := by decide +kernel
theorem dTR_insert_68 : decode cTR_insert 68 = .ok (.iastore, 1) := by decide +kernel
theorem dTR_insert_69 : decode cTR_insert 69 = .ok (.aload_n 0, 1) := by decide +kernel
theorem dTR_insert_70 : decode cTR_insert 70 = .ok (.dup, 1) := by decide +kernel
theorem dTR_insert_71 : decode cTR_insert 71 = .ok (.getfield 18, 3) := by decide +kernel
theorem dTR_insert_74 : decode cTR_insert 74 = .ok (.iconst 1, 1) := by decide +kernel
theorem dTR_insert_75 : decode cTR_insert 75 = .ok (.iadd, 1) := by decide +kernel
theorem dTR_insert_76 : decode cTR_insert 76 = .ok (.putfield 18, 3) := by decide +kernel
theorem dTR_insert_79 : decode cTR_insert 79 = .ok (.return_, 1) := by decide +kernel
theorem dTR_comesAfter_0 : decode cTR_comesAfter 0 = .ok (.aload_n 0, 1) := by decide +kernel
theorem dTR_comesAfter_1 : decode cTR_comesAfter 1 = .ok (.getfield 9, 3) := by decide +kernel
theorem dTR_comesAfter_4 : decode cTR_comesAfter 4 = .ok (.iload_n 1, 1) := by decide +kernel
theorem dTR_comesAfter_5 : decode cTR_comesAfter 5 = .ok (.iaload, 1) := by decide +kernel
theorem dTR_comesAfter_6 : decode cTR_comesAfter 6 = .ok (.iload_n 2, 1) := by decide +kernel
theorem dTR_comesAfter_7 : decode cTR_comesAfter 7 = .ok (.if_icmp .gt 23, 3) := by decide +kernel
theorem dTR_comesAfter_10 : decode cTR_comesAfter 10 = .ok (.aload_n 0, 1) := by decide +kernel
theorem dTR_comesAfter_11 : decode cTR_comesAfter 11 = .ok (.getfield 9, 3) := by decide +kernel
theorem dTR_comesAfter_14 : decode cTR_comesAfter 14 = .ok (.iload_n 1, 1) := by decide +kernel
theorem dTR_comesAfter_15 : decode cTR_comesAfter 15 = .ok (.iaload, 1) := by decide +kernel
theorem dTR_comesAfter_16 : decode cTR_comesAfter 16 = .ok (.iload_n 2, 1) := by decide +kernel
theorem dTR_comesAfter_17 : decode cTR_comesAfter 17 = .ok (.if_icmp .ne 17, 3) := by decide +kernel
theorem dTR_comesAfter_20 : decode cTR_comesAfter 20 = .ok (.aload_n 0, 1) := by decide +kernel
theorem dTR_comesAfter_21 : decode cTR_comesAfter 21 = .ok (.getfield 15, 3) := by decide +kernel
theorem dTR_comesAfter_24 : decode cTR_comesAfter 24 = .ok (.iload_n 1, 1) := by decide +kernel
theorem dTR_comesAfter_25 : decode cTR_comesAfter 25 = .ok (.iaload, 1) := by decide +kernel
theorem dTR_comesAfter_26 : decode cTR_comesAfter 26 = .ok (.iload_n 3, 1) := by decide +kernel
theorem dTR_comesAfter_27 : decode cTR_comesAfter 27 = .ok (.if_icmp .le 7, 3) := by decide +kernel
theorem dTR_comesAfter_30 : decode cTR_comesAfter 30 = .ok (.iconst 1, 1) := by decide +kernel
theorem dTR_comesAfter_31 : decode cTR_comesAfter 31 = .ok (.goto 4, 3) := by decide +kernel
theorem dTR_comesAfter_34 : decode cTR_comesAfter 34 = .ok (.iconst 0, 1) := by decide +kernel
theorem dTR_comesAfter_35 : decode cTR_comesAfter 35 = .ok (.ireturn, 1) := by decide +kernel
theorem dTR_tell_0 : decode cTR_tell 0 = .ok (.iconst 1, 1) := by decide +kernel
theorem dTR_tell_1 : decode cTR_tell 1 = .ok (.istore_n 2, 1) := by decide +kernel
theorem dTR_tell_2 : decode cTR_tell 2 = .ok (.iload_n 2, 1) := by decide +kernel
theorem dTR_tell_3 : decode cTR_tell 3 = .ok (.aload_n 1, 1) := by decide +kernel
theorem dTR_tell_4 : decode cTR_tell 4 = .ok (.invokevirtual 26, 3) := by decide +kernel
theorem dTR_tell_7 : decode cTR_tell 7 = .ok (.if_icmp .gt 48, 3) := by decide +kernel
theorem dTR_tell_10 : decode cTR_tell 10 = .ok (.iconst 1, 1) := by decide +kernel
theorem dTR_tell_11 : decode cTR_tell 11 = .ok (.istore_n 3, 1) := by decide +kernel
theorem dTR_tell_12 : decode cTR_tell 12 = .ok (.iconst 0, 1) := by decide +kernel
theorem dTR_tell_13 : decode cTR_tell 13 = .ok (.istore 4, 2) := by decide +kernel
theorem dTR_tell_15 : decode cTR_tell 15 = .ok (.iload 4, 2) := by decide +kernel
theorem dTR_tell_17 : decode cTR_tell 17 = .ok (.aload_n 0, 1) := by decide +kernel
theorem dTR_tell_18 : decode cTR_tell 18 = .ok (.getfield 18, 3) := by decide +kernel
theorem dTR_tell_21 : decode cTR_tell 21 = .ok (.if_icmp .ge 23, 3) := by decide +kernel
theorem dTR_tell_24 : decode cTR_tell 24 = .ok (.aload_n 0, 1) := by decide +kernel
theorem dTR_tell_25 : decode cTR_tell 25 = .ok (.getfield 9, 3) := by decide +kernel
theorem dTR_tell_28 : decode cTR_tell 28 = .ok (.iload 4, 2) := by decide +kernel
theorem dTR_tell_30 : decode cTR_tell 30 = .ok (.iaload, 1) := by decide +kernel
theorem dTR_tell_31 : decode cTR_tell 31 = .ok (.iload_n 2, 1) := by decide +kernel
theorem dTR_tell_32 : decode cTR_tell 32 = .ok (.if_icmp .ge 6, 3) := by decide +kernel
theorem dTR_tell_35 : decode cTR_tell 35 = .ok (.iinc 3 1, 3) := by decide +kernel
theorem dTR_tell_38 : decode cTR_tell 38 = .ok (.iinc 4 1, 3) := by decide +kernel
theorem dTR_tell_41 : decode cTR_tell 41 = .ok (.goto (-26), 3) := by decide +kernel
theorem dTR_tell_44 : decode cTR_tell 44 = .ok (.aload_n 1, 1) := by decide +kernel
theorem dTR_tell_45 : decode cTR_tell 45 = .ok (.iload_n 3, 1) := by decide +kernel
theorem dTR_tell_46 : decode cTR_tell 46 = .ok (.invokevirtual 57, 3) := by decide +kernel
theorem dTR_tell_49 : decode cTR_tell 49 = .ok (.iinc 2 1, 3) := by decide +kernel
theorem dTR_tell_52 : decode cTR_tell 52 = .ok (.goto (-50), 3) := by decide +kernel
theorem dTR_tell_55 : decode cTR_tell 55 = .ok (.return_, 1) := by decide +kernel
theorem dTR_moveCorners_0 : decode cTR_moveCorners 0 = .ok (.iconst 0, 1) := by decide +kernel
theorem dTR_moveCorners_1 : decode cTR_moveCorners 1 = .ok (.istore_n 1, 1) := by decide +kernel
theorem dTR_moveCorners_2 : decode cTR_moveCorners 2 = .ok (.iload_n 1, 1) := by decide +kernel
theorem dTR_moveCorners_3 : decode cTR_moveCorners 3 = .ok (.aload_n 0, 1) := by decide +kernel
theorem dTR_moveCorners_4 : decode cTR_moveCorners 4 = .ok (.getfield 18, 3) := by decide +kernel
theorem dTR_moveCorners_7 : decode cTR_moveCorners 7 = .ok (.if_icmp .ge 66, 3) := by decide +kernel
theorem dTR_moveCorners_10 : decode cTR_moveCorners 10 = .ok (.aload_n 0, 1) := by decide +kernel
theorem dTR_moveCorners_11 : decode cTR_moveCorners 11 = .ok (.getfield 15, 3) := by decide +kernel
theorem dTR_moveCorners_14 : decode cTR_moveCorners 14 = .ok (.iload_n 1, 1) := by decide +kernel
theorem dTR_moveCorners_15 : decode cTR_moveCorners 15 = .ok (.iaload, 1) := by decide +kernel
theorem dTR_moveCorners_16 : decode cTR_moveCorners 16 = .ok (.aload_n 0, 1) := by decide +kernel
theorem dTR_moveCorners_17 : decode cTR_moveCorners 17 = .ok (.invokevirtual 61, 3) := by decide +kernel
theorem dTR_moveCorners_20 : decode cTR_moveCorners 20 = .ok (.if_icmp .ne 27, 3) := by decide +kernel
theorem dTR_moveCorners_23 : decode cTR_moveCorners 23 = .ok (.aload_n 0, 1) := by decide +kernel
theorem dTR_moveCorners_24 : decode cTR_moveCorners 24 = .ok (.getfield 15, 3) := by decide +kernel
theorem dTR_moveCorners_27 : decode cTR_moveCorners 27 = .ok (.iload_n 1, 1) := by decide +kernel
theorem dTR_moveCorners_28 : decode cTR_moveCorners 28 = .ok (.aload_n 0, 1) := by decide +kernel
theorem dTR_moveCorners_29 : decode cTR_moveCorners 29 = .ok (.getfield 9, 3) := by decide +kernel
theorem dTR_moveCorners_32 : decode cTR_moveCorners 32 = .ok (.iload_n 1, 1) := by decide +kernel
theorem dTR_moveCorners_33 : decode cTR_moveCorners 33 = .ok (.iaload, 1) := by decide +kernel
theorem dTR_moveCorners_34 : decode cTR_moveCorners 34 = .ok (.iconst 1, 1) := by decide +kernel
theorem dTR_moveCorners_35 : decode cTR_moveCorners 35 = .ok (.iadd, 1) := by decide +kernel
theorem dTR_moveCorners_36 : decode cTR_moveCorners 36 = .ok (.iastore, 1) := by decide +kernel
theorem dTR_moveCorners_37 : decode cTR_moveCorners 37 = .ok (.aload_n 0, 1) := by decide +kernel
theorem dTR_moveCorners_38 : decode cTR_moveCorners 38 = .ok (.getfield 9, 3) := by decide +kernel
theorem dTR_moveCorners_41 : decode cTR_moveCorners 41 = .ok (.iload_n 1, 1) := by decide +kernel
theorem dTR_moveCorners_42 : decode cTR_moveCorners 42 = .ok (.iconst 0, 1) := by decide +kernel
theorem dTR_moveCorners_43 : decode cTR_moveCorners 43 = .ok (.iastore, 1) := by decide +kernel
theorem dTR_moveCorners_44 : decode cTR_moveCorners 44 = .ok (.goto 23, 3) := by decide +kernel
theorem dTR_moveCorners_47 : decode cTR_moveCorners 47 = .ok (.aload_n 0, 1) := by decide +kernel
theorem dTR_moveCorners_48 : decode cTR_moveCorners 48 = .ok (.getfield 9, 3) := by decide +kernel
theorem dTR_moveCorners_51 : decode cTR_moveCorners 51 = .ok (.iload_n 1, 1) := by decide +kernel
theorem dTR_moveCorners_52 : decode cTR_moveCorners 52 = .ok (.dup2, 1) := by decide +kernel
theorem dTR_moveCorners_53 : decode cTR_moveCorners 53 = .ok (.iaload, 1) := by decide +kernel
theorem dTR_moveCorners_54 : decode cTR_moveCorners 54 = .ok (.iconst 1, 1) := by decide +kernel
theorem dTR_moveCorners_55 : decode cTR_moveCorners 55 = .ok (.iadd, 1) := by decide +kernel
theorem dTR_moveCorners_56 : decode cTR_moveCorners 56 = .ok (.iastore, 1) := by decide +kernel
theorem dTR_moveCorners_57 : decode cTR_moveCorners 57 = .ok (.aload_n 0, 1) := by decide +kernel
theorem dTR_moveCorners_58 : decode cTR_moveCorners 58 = .ok (.getfield 15, 3) := by decide +kernel
theorem dTR_moveCorners_61 : decode cTR_moveCorners 61 = .ok (.iload_n 1, 1) := by decide +kernel
theorem dTR_moveCorners_62 : decode cTR_moveCorners 62 = .ok (.dup2, 1) := by decide +kernel
theorem dTR_moveCorners_63 : decode cTR_moveCorners 63 = .ok (.iaload, 1) := by decide +kernel
theorem dTR_moveCorners_64 : decode cTR_moveCorners 64 = .ok (.iconst 1, 1) := by decide +kernel
theorem dTR_moveCorners_65 : decode cTR_moveCorners 65 = .ok (.iadd, 1) := by decide +kernel
theorem dTR_moveCorners_66 : decode cTR_moveCorners 66 = .ok (.iastore, 1) := by decide +kernel
theorem dTR_moveCorners_67 : decode cTR_moveCorners 67 = .ok (.iinc 1 1, 3) := by decide +kernel
theorem dTR_moveCorners_70 : decode cTR_moveCorners 70 = .ok (.goto (-68), 3) := by decide +kernel
theorem dTR_moveCorners_73 : decode cTR_moveCorners 73 = .ok (.return_, 1) := by decide +kernel
theorem dTR_exchange_0 : decode cTR_exchange 0 = .ok (.iconst (-1), 1) := by decide +kernel
theorem dTR_exchange_1 : decode cTR_exchange 1 = .ok (.istore_n 2, 1) := by decide +kernel
theorem dTR_exchange_2 : decode cTR_exchange 2 = .ok (.iconst (-1), 1) := by decide +kernel
theorem dTR_exchange_3 : decode cTR_exchange 3 = .ok (.istore_n 3, 1) := by decide +kernel
theorem dTR_exchange_4 : decode cTR_exchange 4 = .ok (.iconst 0, 1) := by decide +kernel
theorem dTR_exchange_5 : decode cTR_exchange 5 = .ok (.istore 4, 2) := by decide +kernel
theorem dTR_exchange_7 : decode cTR_exchange 7 = .ok (.iload 4, 2) := by decide +kernel
theorem dTR_exchange_9 : decode cTR_exchange 9 = .ok (.aload_n 0, 1) := by decide +kernel
theorem dTR_exchange_10 : decode cTR_exchange 10 = .ok (.invokevirtual 61, 3) := by decide +kernel
theorem dTR_exchange_13 : decode cTR_exchange 13 = .ok (.if_icmp .gt 54, 3) := by decide +kernel
theorem dTR_exchange_16 : decode cTR_exchange 16 = .ok (.aload_n 0, 1) := by decide +kernel
theorem dTR_exchange_17 : decode cTR_exchange 17 = .ok (.iload 4, 2) := by decide +kernel
theorem dTR_exchange_19 : decode cTR_exchange 19 = .ok (.aload_n 0, 1) := by decide +kernel
theorem dTR_exchange_20 : decode cTR_exchange 20 = .ok (.getfield 9, 3) := by decide +kernel
theorem dTR_exchange_23 : decode cTR_exchange 23 = .ok (.iload_n 1, 1) := by decide +kernel
theorem dTR_exchange_24 : decode cTR_exchange 24 = .ok (.iaload, 1) := by decide +kernel
theorem dTR_exchange_25 : decode cTR_exchange 25 = .ok (.invokevirtual 64, 3) := by decide +kernel
theorem dTR_exchange_28 : decode cTR_exchange 28 = .ok (.ifCond .eq 33, 3) := by decide +kernel
theorem dTR_exchange_31 : decode cTR_exchange 31 = .ok (.aload_n 0, 1) := by decide +kernel
theorem dTR_exchange_32 : decode cTR_exchange 32 = .ok (.iload 4, 2) := by decide +kernel
theorem dTR_exchange_34 : decode cTR_exchange 34 = .ok (.aload_n 0, 1) := by decide +kernel
theorem dTR_exchange_35 : decode cTR_exchange 35 = .ok (.getfield 15, 3) := by decide +kernel
theorem dTR_exchange_38 : decode cTR_exchange 38 = .ok (.iload_n 1, 1) := by decide +kernel
theorem dTR_exchange_39 : decode cTR_exchange 39 = .ok (.iaload, 1) := by decide +kernel
theorem dTR_exchange_40 : decode cTR_exchange 40 = .ok (.invokevirtual 64, 3) := by decide +kernel
theorem dTR_exchange_43 : decode cTR_exchange 43 = .ok (.ifCond .eq 18, 3) := by decide +kernel
theorem dTR_exchange_46 : decode cTR_exchange 46 = .ok (.iload_n 2, 1) := by decide +kernel
theorem dTR_exchange_47 : decode cTR_exchange 47 = .ok (.iconst (-1), 1) := by decide +kernel
theorem dTR_exchange_48 : decode cTR_exchange 48 = .ok (.if_icmp .ne 8, 3) := by decide +kernel
theorem dTR_exchange_51 : decode cTR_exchange 51 = .ok (.iload 4, 2) := by decide +kernel
theorem dTR_exchange_53 : decode cTR_exchange 53 = .ok (.goto 4, 3) := by decide +kernel
theorem dTR_exchange_56 : decode cTR_exchange 56 = .ok (.iload_n 2, 1) := by decide +kernel
theorem dTR_exchange_57 : decode cTR_exchange 57 = .ok (.istore_n 2, 1) := by decide +kernel
theorem dTR_exchange_58 : decode cTR_exchange 58 = .ok (.iload 4, 2) := by decide +kernel
theorem dTR_exchange_60 : decode cTR_exchange 60 = .ok (.istore_n 3, 1) := by decide +kernel
theorem dTR_exchange_61 : decode cTR_exchange 61 = .ok (.iinc 4 1, 3) := by decide +kernel
theorem dTR_exchange_64 : decode cTR_exchange 64 = .ok (.goto (-57), 3) := by decide +kernel
theorem dTR_exchange_67 : decode cTR_exchange 67 = .ok (.aload_n 0, 1) := by decide +kernel
theorem dTR_exchange_68 : decode cTR_exchange 68 = .ok (.getfield 9, 3) := by decide +kernel
theorem dTR_exchange_71 : decode cTR_exchange 71 = .ok (.iload_n 1, 1) := by decide +kernel
theorem dTR_exchange_72 : decode cTR_exchange 72 = .ok (.iload_n 2, 1) := by decide +kernel
theorem dTR_exchange_73 : decode cTR_exchange 73 = .ok (.iastore, 1) := by decide +kernel
theorem dTR_exchange_74 : decode cTR_exchange 74 = .ok (.aload_n 0, 1) := by decide +kernel
theorem dTR_exchange_75 : decode cTR_exchange 75 = .ok (.getfield 15, 3) := by decide +kernel
theorem dTR_exchange_78 : decode cTR_exchange 78 = .ok (.iload_n 1, 1) := by decide +kernel
theorem dTR_exchange_79 : decode cTR_exchange 79 = .ok (.iload_n 3, 1) := by decide +kernel
theorem dTR_exchange_80 : decode cTR_exchange 80 = .ok (.iastore, 1) := by decide +kernel
theorem dTR_exchange_81 : decode cTR_exchange 81 = .ok (.return_, 1) := by decide +kernel
theorem dTR_lastCorner_0 : decode cTR_lastCorner 0 = .ok (.aload_n 0, 1) := by decide +kernel
theorem dTR_lastCorner_1 : decode cTR_lastCorner 1 = .ok (.getfield 18, 3) := by decide +kernel
theorem dTR_lastCorner_4 : decode cTR_lastCorner 4 = .ok (.iconst 2, 1) := by decide +kernel
theorem dTR_lastCorner_5 : decode cTR_lastCorner 5 = .ok (.iadd, 1) := by decide +kernel
theorem dTR_lastCorner_6 : decode cTR_lastCorner 6 = .ok (.ireturn, 1) := by decide +kernel
theorem dTR_joined_0 : decode cTR_joined 0 = .ok (.iload_n 1, 1) := by decide +kernel
theorem dTR_joined_1 : decode cTR_joined 1 = .ok (.iload_n 2, 1) := by decide +kernel
theorem dTR_joined_2 : decode cTR_joined 2 = .ok (.invokestatic 68, 3) := by decide +kernel
theorem dTR_joined_5 : decode cTR_joined 5 = .ok (.istore_n 3, 1) := by decide +kernel
theorem dTR_joined_6 : decode cTR_joined 6 = .ok (.iload_n 1, 1) := by decide +kernel
theorem dTR_joined_7 : decode cTR_joined 7 = .ok (.iload_n 2, 1) := by decide +kernel
theorem dTR_joined_8 : decode cTR_joined 8 = .ok (.invokestatic 74, 3) := by decide +kernel
theorem dTR_joined_11 : decode cTR_joined 11 = .ok (.istore 4, 2) := by decide +kernel
theorem dTR_joined_13 : decode cTR_joined 13 = .ok (.iload 4, 2) := by decide +kernel
theorem dTR_joined_15 : decode cTR_joined 15 = .ok (.iload_n 3, 1) := by decide +kernel
theorem dTR_joined_16 : decode cTR_joined 16 = .ok (.isub, 1) := by decide +kernel
theorem dTR_joined_17 : decode cTR_joined 17 = .ok (.iconst 1, 1) := by decide +kernel
theorem dTR_joined_18 : decode cTR_joined 18 = .ok (.if_icmp .eq 16, 3) := by decide +kernel
theorem dTR_joined_21 : decode cTR_joined 21 = .ok (.iload_n 3, 1) := by decide +kernel
theorem dTR_joined_22 : decode cTR_joined 22 = .ok (.ifCond .ne 14, 3) := by decide +kernel
theorem dTR_joined_25 : decode cTR_joined 25 = .ok (.iload 4, 2) := by decide +kernel
theorem dTR_joined_27 : decode cTR_joined 27 = .ok (.aload_n 0, 1) := by decide +kernel
theorem dTR_joined_28 : decode cTR_joined 28 = .ok (.invokevirtual 61, 3) := by decide +kernel
theorem dTR_joined_31 : decode cTR_joined 31 = .ok (.if_icmp .ne 5, 3) := by decide +kernel
theorem dTR_joined_34 : decode cTR_joined 34 = .ok (.iconst 1, 1) := by decide +kernel
theorem dTR_joined_35 : decode cTR_joined 35 = .ok (.ireturn, 1) := by decide +kernel
theorem dTR_joined_36 : decode cTR_joined 36 = .ok (.iconst 0, 1) := by decide +kernel
theorem dTR_joined_37 : decode cTR_joined 37 = .ok (.istore 5, 2) := by decide +kernel
theorem dTR_joined_39 : decode cTR_joined 39 = .ok (.iload 5, 2) := by decide +kernel
theorem dTR_joined_41 : decode cTR_joined 41 = .ok (.aload_n 0, 1) := by decide +kernel
theorem dTR_joined_42 : decode cTR_joined 42 = .ok (.getfield 18, 3) := by decide +kernel
theorem dTR_joined_45 : decode cTR_joined 45 = .ok (.if_icmp .ge 34, 3) := by decide +kernel
theorem dTR_joined_48 : decode cTR_joined 48 = .ok (.aload_n 0, 1) := by decide +kernel
theorem dTR_joined_49 : decode cTR_joined 49 = .ok (.getfield 9, 3) := by decide +kernel
theorem dTR_joined_52 : decode cTR_joined 52 = .ok (.iload 5, 2) := by decide +kernel
theorem dTR_joined_54 : decode cTR_joined 54 = .ok (.iaload, 1) := by decide +kernel
theorem dTR_joined_55 : decode cTR_joined 55 = .ok (.iload_n 3, 1) := by decide +kernel
theorem dTR_joined_56 : decode cTR_joined 56 = .ok (.if_icmp .ne 17, 3) := by decide +kernel
theorem dTR_joined_59 : decode cTR_joined 59 = .ok (.aload_n 0, 1) := by decide +kernel
theorem dTR_joined_60 : decode cTR_joined 60 = .ok (.getfield 15, 3) := by decide +kernel
theorem dTR_joined_63 : decode cTR_joined 63 = .ok (.iload 5, 2) := by decide +kernel
theorem dTR_joined_65 : decode cTR_joined 65 = .ok (.iaload, 1) := by decide +kernel
theorem dTR_joined_66 : decode cTR_joined 66 = .ok (.iload 4, 2) := by decide +kernel
theorem dTR_joined_68 : decode cTR_joined 68 = .ok (.if_icmp .ne 5, 3) := by decide +kernel
theorem dTR_joined_71 : decode cTR_joined 71 = .ok (.iconst 1, 1) := by decide +kernel
theorem dTR_joined_72 : decode cTR_joined 72 = .ok (.ireturn, 1) := by decide +kernel
theorem dTR_joined_73 : decode cTR_joined 73 = .ok (.iinc 5 1, 3) := by decide +kernel
theorem dTR_joined_76 : decode cTR_joined 76 = .ok (.goto (-37), 3) := by decide +kernel
theorem dTR_joined_79 : decode cTR_joined 79 = .ok (.iconst 0, 1) := by decide +kernel
theorem dTR_joined_80 : decode cTR_joined 80 = .ok (.ireturn, 1) := by decide +kernel
theorem dWD_init_0 : decode cWD_init 0 = .ok (.aload_n 0, 1) := by decide +kernel
theorem dWD_init_1 : decode cWD_init 1 = .ok (.invokespecial 3, 3) := by decide +kernel
theorem dWD_init_4 : decode cWD_init 4 = .ok (.aload_n 0, 1) := by decide +kernel
theorem dWD_init_5 : decode cWD_init 5 = .ok (.bipush 18, 2) := by decide +kernel
theorem dWD_init_7 : decode cWD_init 7 = .ok (.newarray .int, 2) := by decide +kernel
theorem dWD_init_9 : decode cWD_init 9 = .ok (.putfield 9, 3) := by decide +kernel
theorem dWD_init_12 : decode cWD_init 12 = .ok (.aload_n 0, 1) := by decide +kernel
theorem dWD_init_13 : decode cWD_init 13 = .ok (.bipush 10, 2) := by decide +kernel
theorem dWD_init_15 : decode cWD_init 15 = .ok (.newarray .int, 2) := by decide +kernel
theorem dWD_init_17 : decode cWD_init 17 = .ok (.putfield 15, 3) := by decide +kernel
theorem dWD_init_20 : decode cWD_init 20 = .ok (.aload_n 0, 1) := by decide +kernel
theorem dWD_init_21 : decode cWD_init 21 = .ok (.iconst 0, 1) := by decide +kernel
theorem dWD_init_22 : decode cWD_init 22 = .ok (.putfield 18, 3) := by decide +kernel
theorem dWD_init_25 : decode cWD_init 25 = .ok (.return_, 1) := by decide +kernel
theorem dWD_begin_0 : decode cWD_begin 0 = .ok (.aload_n 0, 1) := by decide +kernel
theorem dWD_begin_1 : decode cWD_begin 1 = .ok (.iload_n 1, 1) := by decide +kernel
theorem dWD_begin_2 : decode cWD_begin 2 = .ok (.putfield 18, 3) := by decide +kernel
theorem dWD_begin_5 : decode cWD_begin 5 = .ok (.aload_n 0, 1) := by decide +kernel
theorem dWD_begin_6 : decode cWD_begin 6 = .ok (.getfield 15, 3) := by decide +kernel
theorem dWD_begin_9 : decode cWD_begin 9 = .ok (.iconst 0, 1) := by decide +kernel
theorem dWD_begin_10 : decode cWD_begin 10 = .ok (.invokestatic 22, 3) := by decide +kernel
theorem dWD_begin_13 : decode cWD_begin 13 = .ok (.return_, 1) := by decide +kernel
theorem dWD_closeAfter_0 : decode cWD_closeAfter 0 = .ok (.iload_n 1, 1) := by decide +kernel
theorem dWD_closeAfter_1 : decode cWD_closeAfter 1 = .ok (.iconst 1, 1) := by decide +kernel
theorem dWD_closeAfter_2 : decode cWD_closeAfter 2 = .ok (.if_icmp .lt 21, 3) := by decide +kernel
theorem dWD_closeAfter_5 : decode cWD_closeAfter 5 = .ok (.iload_n 1, 1) := by decide +kernel
theorem dWD_closeAfter_6 : decode cWD_closeAfter 6 = .ok (.aload_n 0, 1) := by decide +kernel
theorem dWD_closeAfter_7 : decode cWD_closeAfter 7 = .ok (.getfield 18, 3) := by decide +kernel
theorem dWD_closeAfter_10 : decode cWD_closeAfter 10 = .ok (.if_icmp .gt 13, 3) := by decide +kernel
theorem dWD_closeAfter_13 : decode cWD_closeAfter 13 = .ok (.aload_n 0, 1) := by decide +kernel
theorem dWD_closeAfter_14 : decode cWD_closeAfter 14 = .ok (.getfield 15, 3) := by decide +kernel
theorem dWD_closeAfter_17 : decode cWD_closeAfter 17 = .ok (.iload_n 1, 1) := by decide +kernel
theorem dWD_closeAfter_18 : decode cWD_closeAfter 18 = .ok (.dup2, 1) := by decide +kernel
theorem dWD_closeAfter_19 : decode cWD_closeAfter 19 = .ok (.iaload, 1) := by decide +kernel
theorem dWD_closeAfter_20 : decode cWD_closeAfter 20 = .ok (.iconst 1, 1) := by decide +kernel
theorem dWD_closeAfter_21 : decode cWD_closeAfter 21 = .ok (.iadd, 1) := by decide +kernel
theorem dWD_closeAfter_22 : decode cWD_closeAfter 22 = .ok (.iastore, 1) := by decide +kernel
theorem dWD_closeAfter_23 : decode cWD_closeAfter 23 = .ok (.return_, 1) := by decide +kernel
theorem dWD_finish_0 : decode cWD_finish 0 = .ok (.iconst 0, 1) := by decide +kernel
theorem dWD_finish_1 : decode cWD_finish 1 = .ok (.istore_n 1, 1) := by decide +kernel
theorem dWD_finish_2 : decode cWD_finish 2 = .ok (.iconst 0, 1) := by decide +kernel
theorem dWD_finish_3 : decode cWD_finish 3 = .ok (.istore_n 2, 1) := by decide +kernel
theorem dWD_finish_4 : decode cWD_finish 4 = .ok (.iconst 1, 1) := by decide +kernel
theorem dWD_finish_5 : decode cWD_finish 5 = .ok (.istore_n 3, 1) := by decide +kernel
theorem dWD_finish_6 : decode cWD_finish 6 = .ok (.iload_n 3, 1) := by decide +kernel
theorem dWD_finish_7 : decode cWD_finish 7 = .ok (.aload_n 0, 1) := by decide +kernel
theorem dWD_finish_8 : decode cWD_finish 8 = .ok (.getfield 18, 3) := by decide +kernel
theorem dWD_finish_11 : decode cWD_finish 11 = .ok (.if_icmp .gt 65, 3) := by decide +kernel
theorem dWD_finish_14 : decode cWD_finish 14 = .ok (.iload_n 2, 1) := by decide +kernel
theorem dWD_finish_15 : decode cWD_finish 15 = .ok (.aload_n 0, 1) := by decide +kernel
theorem dWD_finish_16 : decode cWD_finish 16 = .ok (.getfield 15, 3) := by decide +kernel
theorem dWD_finish_19 : decode cWD_finish 19 = .ok (.iload_n 3, 1) := by decide +kernel
theorem dWD_finish_20 : decode cWD_finish 20 = .ok (.iaload, 1) := by decide +kernel
theorem dWD_finish_21 : decode cWD_finish 21 = .ok (.iadd, 1) := by decide +kernel
theorem dWD_finish_22 : decode cWD_finish 22 = .ok (.istore_n 2, 1) := by decide +kernel
theorem dWD_finish_23 : decode cWD_finish 23 = .ok (.iload_n 2, 1) := by decide +kernel
theorem dWD_finish_24 : decode cWD_finish 24 = .ok (.iload_n 3, 1) := by decide +kernel
theorem dWD_finish_25 : decode cWD_finish 25 = .ok (.if_icmp .le 5, 3) := by decide +kernel
theorem dWD_finish_28 : decode cWD_finish 28 = .ok (.iconst 0, 1) := by decide +kernel
theorem dWD_finish_29 : decode cWD_finish 29 = .ok (.ireturn, 1) := by decide +kernel
theorem dWD_finish_30 : decode cWD_finish 30 = .ok (.aload_n 0, 1) := by decide +kernel
theorem dWD_finish_31 : decode cWD_finish 31 = .ok (.getfield 9, 3) := by decide +kernel
theorem dWD_finish_34 : decode cWD_finish 34 = .ok (.iload_n 1, 1) := by decide +kernel
theorem dWD_finish_35 : decode cWD_finish 35 = .ok (.iinc 1 1, 3) := by decide +kernel
theorem dWD_finish_38 : decode cWD_finish 38 = .ok (.iconst 1, 1) := by decide +kernel
theorem dWD_finish_39 : decode cWD_finish 39 = .ok (.iastore, 1) := by decide +kernel
theorem dWD_finish_40 : decode cWD_finish 40 = .ok (.iconst 0, 1) := by decide +kernel
theorem dWD_finish_41 : decode cWD_finish 41 = .ok (.istore 4, 2) := by decide +kernel
theorem dWD_finish_43 : decode cWD_finish 43 = .ok (.iload 4, 2) := by decide +kernel
theorem dWD_finish_45 : decode cWD_finish 45 = .ok (.aload_n 0, 1) := by decide +kernel
theorem dWD_finish_46 : decode cWD_finish 46 = .ok (.getfield 15, 3) := by decide +kernel
theorem dWD_finish_49 : decode cWD_finish 49 = .ok (.iload_n 3, 1) := by decide +kernel
theorem dWD_finish_50 : decode cWD_finish 50 = .ok (.iaload, 1) := by decide +kernel
theorem dWD_finish_51 : decode cWD_finish 51 = .ok (.if_icmp .ge 19, 3) := by decide +kernel
theorem dWD_finish_54 : decode cWD_finish 54 = .ok (.aload_n 0, 1) := by decide +kernel
theorem dWD_finish_55 : decode cWD_finish 55 = .ok (.getfield 9, 3) := by decide +kernel
theorem dWD_finish_58 : decode cWD_finish 58 = .ok (.iload_n 1, 1) := by decide +kernel
theorem dWD_finish_59 : decode cWD_finish 59 = .ok (.iinc 1 1, 3) := by decide +kernel
theorem dWD_finish_62 : decode cWD_finish 62 = .ok (.iconst 0, 1) := by decide +kernel
theorem dWD_finish_63 : decode cWD_finish 63 = .ok (.iastore, 1) := by decide +kernel
theorem dWD_finish_64 : decode cWD_finish 64 = .ok (.iinc 4 1, 3) := by decide +kernel
theorem dWD_finish_67 : decode cWD_finish 67 = .ok (.goto (-24), 3) := by decide +kernel
theorem dWD_finish_70 : decode cWD_finish 70 = .ok (.iinc 3 1, 3) := by decide +kernel
theorem dWD_finish_73 : decode cWD_finish 73 = .ok (.goto (-67), 3) := by decide +kernel
theorem dWD_finish_76 : decode cWD_finish 76 = .ok (.iload_n 2, 1) := by decide +kernel
theorem dWD_finish_77 : decode cWD_finish 77 = .ok (.aload_n 0, 1) := by decide +kernel
theorem dWD_finish_78 : decode cWD_finish 78 = .ok (.getfield 18, 3) := by decide +kernel
theorem dWD_finish_81 : decode cWD_finish 81 = .ok (.if_icmp .ne 7, 3) := by decide +kernel
theorem dWD_finish_84 : decode cWD_finish 84 = .ok (.iconst 1, 1) := by decide +kernel
theorem dWD_finish_85 : decode cWD_finish 85 = .ok (.goto 4, 3) := by decide +kernel
theorem dWD_finish_88 : decode cWD_finish 88 = .ok (.iconst 0, 1) := by decide +kernel
theorem dWD_finish_89 : decode cWD_finish 89 = .ok (.ireturn, 1) := by decide +kernel
theorem dWD_pairs_0 : decode cWD_pairs 0 = .ok (.aload_n 0, 1) := by decide +kernel
theorem dWD_pairs_1 : decode cWD_pairs 1 = .ok (.getfield 18, 3) := by decide +kernel
theorem dWD_pairs_4 : decode cWD_pairs 4 = .ok (.ireturn, 1) := by decide +kernel
theorem dWD_length_0 : decode cWD_length 0 = .ok (.iconst 2, 1) := by decide +kernel
theorem dWD_length_1 : decode cWD_length 1 = .ok (.aload_n 0, 1) := by decide +kernel
theorem dWD_length_2 : decode cWD_length 2 = .ok (.getfield 18, 3) := by decide +kernel
theorem dWD_length_5 : decode cWD_length 5 = .ok (.imul, 1) := by decide +kernel
theorem dWD_length_6 : decode cWD_length 6 = .ok (.ireturn, 1) := by decide +kernel
theorem dWD_isOne_0 : decode cWD_isOne 0 = .ok (.iload_n 1, 1) := by decide +kernel
theorem dWD_isOne_1 : decode cWD_isOne 1 = .ok (.ifCond .lt 25, 3) := by decide +kernel
theorem dWD_isOne_4 : decode cWD_isOne 4 = .ok (.iload_n 1, 1) := by decide +kernel
theorem dWD_isOne_5 : decode cWD_isOne 5 = .ok (.aload_n 0, 1) := by decide +kernel
theorem dWD_isOne_6 : decode cWD_isOne 6 = .ok (.invokevirtual 28, 3) := by decide +kernel
theorem dWD_isOne_9 : decode cWD_isOne 9 = .ok (.if_icmp .ge 17, 3) := by decide +kernel
theorem dWD_isOne_12 : decode cWD_isOne 12 = .ok (.aload_n 0, 1) := by decide +kernel
theorem dWD_isOne_13 : decode cWD_isOne 13 = .ok (.getfield 9, 3) := by decide +kernel
theorem dWD_isOne_16 : decode cWD_isOne 16 = .ok (.iload_n 1, 1) := by decide +kernel
theorem dWD_isOne_17 : decode cWD_isOne 17 = .ok (.iaload, 1) := by decide +kernel
theorem dWD_isOne_18 : decode cWD_isOne 18 = .ok (.iconst 1, 1) := by decide +kernel
theorem dWD_isOne_19 : decode cWD_isOne 19 = .ok (.if_icmp .ne 7, 3) := by decide +kernel
theorem dWD_isOne_22 : decode cWD_isOne 22 = .ok (.iconst 1, 1) := by decide +kernel
theorem dWD_isOne_23 : decode cWD_isOne 23 = .ok (.goto 4, 3) := by decide +kernel
theorem dWD_isOne_26 : decode cWD_isOne 26 = .ok (.iconst 0, 1) := by decide +kernel
theorem dWD_isOne_27 : decode cWD_isOne 27 = .ok (.ireturn, 1) := by decide +kernel
theorem dWD_closingsAfter_0 : decode cWD_closingsAfter 0 = .ok (.iload_n 1, 1) := by decide +kernel
theorem dWD_closingsAfter_1 : decode cWD_closingsAfter 1 = .ok (.iconst 1, 1) := by decide +kernel
theorem dWD_closingsAfter_2 : decode cWD_closingsAfter 2 = .ok (.if_icmp .lt 20, 3) := by decide +kernel
theorem dWD_closingsAfter_5 : decode cWD_closingsAfter 5 = .ok (.iload_n 1, 1) := by decide +kernel
theorem dWD_closingsAfter_6 : decode cWD_closingsAfter 6 = .ok (.aload_n 0, 1) := by decide +kernel
theorem dWD_closingsAfter_7 : decode cWD_closingsAfter 7 = .ok (.getfield 18, 3) := by decide +kernel
theorem dWD_closingsAfter_10 : decode cWD_closingsAfter 10 = .ok (.if_icmp .gt 12, 3) := by decide +kernel
theorem dWD_closingsAfter_13 : decode cWD_closingsAfter 13 = .ok (.aload_n 0, 1) := by decide +kernel
theorem dWD_closingsAfter_14 : decode cWD_closingsAfter 14 = .ok (.getfield 15, 3) := by decide +kernel
theorem dWD_closingsAfter_17 : decode cWD_closingsAfter 17 = .ok (.iload_n 1, 1) := by decide +kernel
theorem dWD_closingsAfter_18 : decode cWD_closingsAfter 18 = .ok (.iaload, 1) := by decide +kernel
theorem dWD_closingsAfter_19 : decode cWD_closingsAfter 19 = .ok (.goto 4, 3) := by decide +kernel
theorem dWD_closingsAfter_22 : decode cWD_closingsAfter 22 = .ok (.iconst 0, 1) := by decide +kernel
theorem dWD_closingsAfter_23 : decode cWD_closingsAfter 23 = .ok (.ireturn, 1) := by decide +kernel
theorem dWD_zerosBefore_0 : decode cWD_zerosBefore 0 = .ok (.iload_n 1, 1) := by decide +kernel
theorem dWD_zerosBefore_1 : decode cWD_zerosBefore 1 = .ok (.aload_n 0, 1) := by decide +kernel
theorem dWD_zerosBefore_2 : decode cWD_zerosBefore 2 = .ok (.iload_n 1, 1) := by decide +kernel
theorem dWD_zerosBefore_3 : decode cWD_zerosBefore 3 = .ok (.invokevirtual 32, 3) := by decide +kernel
theorem dWD_zerosBefore_6 : decode cWD_zerosBefore 6 = .ok (.isub, 1) := by decide +kernel
theorem dWD_zerosBefore_7 : decode cWD_zerosBefore 7 = .ok (.ireturn, 1) := by decide +kernel
theorem dWD_onesBefore_0 : decode cWD_onesBefore 0 = .ok (.iconst 0, 1) := by decide +kernel
theorem dWD_onesBefore_1 : decode cWD_onesBefore 1 = .ok (.istore_n 2, 1) := by decide +kernel
theorem dWD_onesBefore_2 : decode cWD_onesBefore 2 = .ok (.iconst 0, 1) := by decide +kernel
theorem dWD_onesBefore_3 : decode cWD_onesBefore 3 = .ok (.istore_n 3, 1) := by decide +kernel
theorem dWD_onesBefore_4 : decode cWD_onesBefore 4 = .ok (.iload_n 3, 1) := by decide +kernel
theorem dWD_onesBefore_5 : decode cWD_onesBefore 5 = .ok (.iload_n 1, 1) := by decide +kernel
theorem dWD_onesBefore_6 : decode cWD_onesBefore 6 = .ok (.if_icmp .ge 26, 3) := by decide +kernel
theorem dWD_onesBefore_9 : decode cWD_onesBefore 9 = .ok (.iload_n 3, 1) := by decide +kernel
theorem dWD_onesBefore_10 : decode cWD_onesBefore 10 = .ok (.aload_n 0, 1) := by decide +kernel
theorem dWD_onesBefore_11 : decode cWD_onesBefore 11 = .ok (.invokevirtual 28, 3) := by decide +kernel
theorem dWD_onesBefore_14 : decode cWD_onesBefore 14 = .ok (.if_icmp .ge 18, 3) := by decide +kernel
theorem dWD_onesBefore_17 : decode cWD_onesBefore 17 = .ok (.iload_n 2, 1) := by decide +kernel
theorem dWD_onesBefore_18 : decode cWD_onesBefore 18 = .ok (.aload_n 0, 1) := by decide +kernel
theorem dWD_onesBefore_19 : decode cWD_onesBefore 19 = .ok (.getfield 9, 3) := by decide +kernel
theorem dWD_onesBefore_22 : decode cWD_onesBefore 22 = .ok (.iload_n 3, 1) := by decide +kernel
theorem dWD_onesBefore_23 : decode cWD_onesBefore 23 = .ok (.iaload, 1) := by decide +kernel
theorem dWD_onesBefore_24 : decode cWD_onesBefore 24 = .ok (.iadd, 1) := by decide +kernel
theorem dWD_onesBefore_25 : decode cWD_onesBefore 25 = .ok (.istore_n 2, 1) := by decide +kernel
theorem dWD_onesBefore_26 : decode cWD_onesBefore 26 = .ok (.iinc 3 1, 3) := by decide +kernel
theorem dWD_onesBefore_29 : decode cWD_onesBefore 29 = .ok (.goto (-25), 3) := by decide +kernel
theorem dWD_onesBefore_32 : decode cWD_onesBefore 32 = .ok (.iload_n 2, 1) := by decide +kernel
theorem dWD_onesBefore_33 : decode cWD_onesBefore 33 = .ok (.ireturn, 1) := by decide +kernel
theorem dWD_fall_0 : decode cWD_fall 0 = .ok (.iconst 0, 1) := by decide +kernel
theorem dWD_fall_1 : decode cWD_fall 1 = .ok (.istore_n 2, 1) := by decide +kernel
theorem dWD_fall_2 : decode cWD_fall 2 = .ok (.iload_n 1, 1) := by decide +kernel
theorem dWD_fall_3 : decode cWD_fall 3 = .ok (.istore_n 3, 1) := by decide +kernel
theorem dWD_fall_4 : decode cWD_fall 4 = .ok (.iload_n 3, 1) := by decide +kernel
theorem dWD_fall_5 : decode cWD_fall 5 = .ok (.aload_n 0, 1) := by decide +kernel
theorem dWD_fall_6 : decode cWD_fall 6 = .ok (.invokevirtual 28, 3) := by decide +kernel
theorem dWD_fall_9 : decode cWD_fall 9 = .ok (.if_icmp .ge 33, 3) := by decide +kernel
theorem dWD_fall_12 : decode cWD_fall 12 = .ok (.iload_n 2, 1) := by decide +kernel
theorem dWD_fall_13 : decode cWD_fall 13 = .ok (.aload_n 0, 1) := by decide +kernel
theorem dWD_fall_14 : decode cWD_fall 14 = .ok (.getfield 9, 3) := by decide +kernel
theorem dWD_fall_17 : decode cWD_fall 17 = .ok (.iload_n 3, 1) := by decide +kernel
theorem dWD_fall_18 : decode cWD_fall 18 = .ok (.iaload, 1) := by decide +kernel
theorem dWD_fall_19 : decode cWD_fall 19 = .ok (.iconst 1, 1) := by decide +kernel
theorem dWD_fall_20 : decode cWD_fall 20 = .ok (.if_icmp .ne 7, 3) := by decide +kernel
theorem dWD_fall_23 : decode cWD_fall 23 = .ok (.iconst 1, 1) := by decide +kernel
theorem dWD_fall_24 : decode cWD_fall 24 = .ok (.goto 4, 3) := by decide +kernel
theorem dWD_fall_27 : decode cWD_fall 27 = .ok (.iconst (-1), 1) := by decide +kernel
theorem dWD_fall_28 : decode cWD_fall 28 = .ok (.iadd, 1) := by decide +kernel
theorem dWD_fall_29 : decode cWD_fall 29 = .ok (.istore_n 2, 1) := by decide +kernel
theorem dWD_fall_30 : decode cWD_fall 30 = .ok (.iload_n 2, 1) := by decide +kernel
theorem dWD_fall_31 : decode cWD_fall 31 = .ok (.ifCond .ge 5, 3) := by decide +kernel
theorem dWD_fall_34 : decode cWD_fall 34 = .ok (.iload_n 3, 1) := by decide +kernel
theorem dWD_fall_35 : decode cWD_fall 35 = .ok (.ireturn, 1) := by decide +kernel
theorem dWD_fall_36 : decode cWD_fall 36 = .ok (.iinc 3 1, 3) := by decide +kernel
theorem dWD_fall_39 : decode cWD_fall 39 = .ok (.goto (-35), 3) := by decide +kernel
theorem dWD_fall_42 : decode cWD_fall 42 = .ok (.aload_n 0, 1) := by decide +kernel
theorem dWD_fall_43 : decode cWD_fall 43 = .ok (.invokevirtual 28, 3) := by decide +kernel
theorem dWD_fall_46 : decode cWD_fall 46 = .ok (.ireturn, 1) := by decide +kernel
theorem dAR_fill_0 : decode cAR_fill 0 = .ok (.iconst 0, 1) := by decide +kernel
theorem dAR_fill_1 : decode cAR_fill 1 = .ok (.istore_n 2, 1) := by decide +kernel
theorem dAR_fill_2 : decode cAR_fill 2 = .ok (.aload_n 0, 1) := by decide +kernel
theorem dAR_fill_3 : decode cAR_fill 3 = .ok (.arraylength, 1) := by decide +kernel
theorem dAR_fill_4 : decode cAR_fill 4 = .ok (.istore_n 3, 1) := by decide +kernel
theorem dAR_fill_5 : decode cAR_fill 5 = .ok (.iload_n 2, 1) := by decide +kernel
theorem dAR_fill_6 : decode cAR_fill 6 = .ok (.iload_n 3, 1) := by decide +kernel
theorem dAR_fill_7 : decode cAR_fill 7 = .ok (.if_icmp .ge 13, 3) := by decide +kernel
theorem dAR_fill_10 : decode cAR_fill 10 = .ok (.aload_n 0, 1) := by decide +kernel
theorem dAR_fill_11 : decode cAR_fill 11 = .ok (.iload_n 2, 1) := by decide +kernel
theorem dAR_fill_12 : decode cAR_fill 12 = .ok (.iload_n 1, 1) := by decide +kernel
theorem dAR_fill_13 : decode cAR_fill 13 = .ok (.iastore, 1) := by decide +kernel
theorem dAR_fill_14 : decode cAR_fill 14 = .ok (.iinc 2 1, 3) := by decide +kernel
theorem dAR_fill_17 : decode cAR_fill 17 = .ok (.goto (-12), 3) := by decide +kernel
theorem dAR_fill_20 : decode cAR_fill 20 = .ok (.return_, 1) := by decide +kernel
