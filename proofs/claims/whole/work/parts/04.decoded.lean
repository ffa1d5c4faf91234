theorem dCW_size_0 : decode cCW_size 0 = .ok (.iload_n 1, 1) := by decide +kernel
theorem dCW_size_1 : decode cCW_size 1 = .ok (.iconst 1, 1) := by decide +kernel
theorem dCW_size_2 : decode cCW_size 2 = .ok (.if_icmp .lt 9, 3) := by decide +kernel
theorem dCW_size_5 : decode cCW_size 5 = .ok (.iload_n 1, 1) := by decide +kernel
theorem dCW_size_6 : decode cCW_size 6 = .ok (.bipush 9, 2) := by decide +kernel
theorem dCW_size_8 : decode cCW_size 8 = .ok (.if_icmp .le 13, 3) := by decide +kernel
theorem dCW_size_11 : decode cCW_size 11 = .ok (.new 75, 3) := by decide +kernel
theorem dCW_size_14 : decode cCW_size 14 = .ok (.dup, 1) := by decide +kernel
theorem dCW_size_15 : decode cCW_size 15 = .ok (.ldc 77, 2) := by decide +kernel
theorem dCW_size_17 : decode cCW_size 17 = .ok (.invokespecial 79, 3) := by decide +kernel
theorem dCW_size_20 : decode cCW_size 20 = .ok (.athrow, 1) := by decide +kernel
theorem dCW_size_21 : decode cCW_size 21 = .ok (.aload_n 0, 1) := by decide +kernel
theorem dCW_size_22 : decode cCW_size 22 = .ok (.getfield 10, 3) := by decide +kernel
theorem dCW_size_25 : decode cCW_size 25 = .ok (.aload_n 0, 1) := by decide +kernel
theorem dCW_size_26 : decode cCW_size 26 = .ok (.getfield 64, 3) := by decide +kernel
theorem dCW_size_29 : decode cCW_size 29 = .ok (.iload_n 1, 1) := by decide +kernel
theorem dCW_size_30 : decode cCW_size 30 = .ok (.iconst 0, 1) := by decide +kernel
theorem dCW_size_31 : decode cCW_size 31 = .ok (.invokevirtual 71, 3) := by decide +kernel
theorem dCW_size_34 : decode cCW_size 34 = .ok (.aload_n 0, 1) := by decide +kernel
theorem dCW_size_35 : decode cCW_size 35 = .ok (.getfield 10, 3) := by decide +kernel
theorem dCW_size_38 : decode cCW_size 38 = .ok (.iload_n 1, 1) := by decide +kernel
theorem dCW_size_39 : decode cCW_size 39 = .ok (.invokevirtual 82, 3) := by decide +kernel
theorem dCW_size_42 : decode cCW_size 42 = .ok (.ireturn, 1) := by decide +kernel
theorem dCW_rank_0 : decode cCW_rank 0 = .ok (.aload_n 0, 1) := by decide +kernel
theorem dCW_rank_1 : decode cCW_rank 1 = .ok (.getfield 10, 3) := by decide +kernel
theorem dCW_rank_4 : decode cCW_rank 4 = .ok (.aload_n 0, 1) := by decide +kernel
theorem dCW_rank_5 : decode cCW_rank 5 = .ok (.getfield 64, 3) := by decide +kernel
theorem dCW_rank_8 : decode cCW_rank 8 = .ok (.invokevirtual 86, 3) := by decide +kernel
theorem dCW_rank_11 : decode cCW_rank 11 = .ok (.ireturn, 1) := by decide +kernel
theorem dCW_unrank_0 : decode cCW_unrank 0 = .ok (.aload_n 0, 1) := by decide +kernel
theorem dCW_unrank_1 : decode cCW_unrank 1 = .ok (.iload_n 1, 1) := by decide +kernel
theorem dCW_unrank_2 : decode cCW_unrank 2 = .ok (.invokevirtual 90, 3) := by decide +kernel
theorem dCW_unrank_5 : decode cCW_unrank 5 = .ok (.ifCond .ne 13, 3) := by decide +kernel
theorem dCW_unrank_8 : decode cCW_unrank 8 = .ok (.new 75, 3) := by decide +kernel
theorem dCW_unrank_11 : decode cCW_unrank 11 = .ok (.dup, 1) := by decide +kernel
theorem dCW_unrank_12 : decode cCW_unrank 12 = .ok (.ldc 94, 2) := by decide +kernel
theorem dCW_unrank_14 : decode cCW_unrank 14 = .ok (.invokespecial 79, 3) := by decide +kernel
theorem dCW_unrank_17 : decode cCW_unrank 17 = .ok (.athrow, 1) := by decide +kernel
theorem dCW_unrank_18 : decode cCW_unrank 18 = .ok (.aload_n 0, 1) := by decide +kernel
theorem dCW_unrank_19 : decode cCW_unrank 19 = .ok (.getfield 10, 3) := by decide +kernel
theorem dCW_unrank_22 : decode cCW_unrank 22 = .ok (.aload_n 0, 1) := by decide +kernel
theorem dCW_unrank_23 : decode cCW_unrank 23 = .ok (.getfield 64, 3) := by decide +kernel
theorem dCW_unrank_26 : decode cCW_unrank 26 = .ok (.aload_n 0, 1) := by decide +kernel
theorem dCW_unrank_27 : decode cCW_unrank 27 = .ok (.getfield 64, 3) := by decide +kernel
theorem dCW_unrank_30 : decode cCW_unrank 30 = .ok (.invokevirtual 96, 3) := by decide +kernel
theorem dCW_unrank_33 : decode cCW_unrank 33 = .ok (.iload_n 1, 1) := by decide +kernel
theorem dCW_unrank_34 : decode cCW_unrank 34 = .ok (.invokevirtual 71, 3) := by decide +kernel
theorem dCW_unrank_37 : decode cCW_unrank 37 = .ok (.return_, 1) := by decide +kernel
theorem dCW_rows_0 : decode cCW_rows 0 = .ok (.iload_n 1, 1) := by decide +kernel
theorem dCW_rows_1 : decode cCW_rows 1 = .ok (.ifCond .lt 19, 3) := by decide +kernel
theorem dCW_rows_4 : decode cCW_rows 4 = .ok (.iload_n 1, 1) := by decide +kernel
theorem dCW_rows_5 : decode cCW_rows 5 = .ok (.bipush 15, 2) := by decide +kernel
theorem dCW_rows_7 : decode cCW_rows 7 = .ok (.if_icmp .gt 13, 3) := by decide +kernel
theorem dCW_rows_10 : decode cCW_rows 10 = .ok (.iload_n 2, 1) := by decide +kernel
theorem dCW_rows_11 : decode cCW_rows 11 = .ok (.ifCond .lt 9, 3) := by decide +kernel
theorem dCW_rows_14 : decode cCW_rows 14 = .ok (.iload_n 2, 1) := by decide +kernel
theorem dCW_rows_15 : decode cCW_rows 15 = .ok (.bipush 15, 2) := by decide +kernel
theorem dCW_rows_17 : decode cCW_rows 17 = .ok (.if_icmp .le 13, 3) := by decide +kernel
theorem dCW_rows_20 : decode cCW_rows 20 = .ok (.new 75, 3) := by decide +kernel
theorem dCW_rows_23 : decode cCW_rows 23 = .ok (.dup, 1) := by decide +kernel
theorem dCW_rows_24 : decode cCW_rows 24 = .ok (.ldc 100, 2) := by decide +kernel
theorem dCW_rows_26 : decode cCW_rows 26 = .ok (.invokespecial 79, 3) := by decide +kernel
theorem dCW_rows_29 : decode cCW_rows 29 = .ok (.athrow, 1) := by decide +kernel
theorem dCW_rows_30 : decode cCW_rows 30 = .ok (.aload_n 0, 1) := by decide +kernel
theorem dCW_rows_31 : decode cCW_rows 31 = .ok (.getfield 10, 3) := by decide +kernel
theorem dCW_rows_34 : decode cCW_rows 34 = .ok (.iload_n 1, 1) := by decide +kernel
theorem dCW_rows_35 : decode cCW_rows 35 = .ok (.iload_n 2, 1) := by decide +kernel
theorem dCW_rows_36 : decode cCW_rows 36 = .ok (.invokevirtual 102, 3) := by decide +kernel
theorem dCW_rows_39 : decode cCW_rows 39 = .ok (.ireturn, 1) := by decide +kernel
theorem dCW_put_0 : decode cCW_put 0 = .ok (.iload_n 1, 1) := by decide +kernel
theorem dCW_put_1 : decode cCW_put 1 = .ok (.ifCond .lt 9, 3) := by decide +kernel
theorem dCW_put_4 : decode cCW_put 4 = .ok (.iload_n 1, 1) := by decide +kernel
theorem dCW_put_5 : decode cCW_put 5 = .ok (.bipush 20, 2) := by decide +kernel
theorem dCW_put_7 : decode cCW_put 7 = .ok (.if_icmp .lt 13, 3) := by decide +kernel
theorem dCW_put_10 : decode cCW_put 10 = .ok (.new 106, 3) := by decide +kernel
theorem dCW_put_13 : decode cCW_put 13 = .ok (.dup, 1) := by decide +kernel
theorem dCW_put_14 : decode cCW_put 14 = .ok (.ldc 108, 2) := by decide +kernel
theorem dCW_put_16 : decode cCW_put 16 = .ok (.invokespecial 110, 3) := by decide +kernel
theorem dCW_put_19 : decode cCW_put 19 = .ok (.athrow, 1) := by decide +kernel
theorem dCW_put_20 : decode cCW_put 20 = .ok (.aload_n 0, 1) := by decide +kernel
theorem dCW_put_21 : decode cCW_put 21 = .ok (.getfield 54, 3) := by decide +kernel
theorem dCW_put_24 : decode cCW_put 24 = .ok (.iload_n 1, 1) := by decide +kernel
theorem dCW_put_25 : decode cCW_put 25 = .ok (.iload_n 2, 1) := by decide +kernel
theorem dCW_put_26 : decode cCW_put 26 = .ok (.iastore, 1) := by decide +kernel
theorem dCW_put_27 : decode cCW_put 27 = .ok (.return_, 1) := by decide +kernel
theorem dCW_note_0 : decode cCW_note 0 = .ok (.iload_n 1, 1) := by decide +kernel
theorem dCW_note_1 : decode cCW_note 1 = .ok (.ifCond .lt 9, 3) := by decide +kernel
theorem dCW_note_4 : decode cCW_note 4 = .ok (.iload_n 1, 1) := by decide +kernel
theorem dCW_note_5 : decode cCW_note 5 = .ok (.bipush 20, 2) := by decide +kernel
theorem dCW_note_7 : decode cCW_note 7 = .ok (.if_icmp .lt 13, 3) := by decide +kernel
theorem dCW_note_10 : decode cCW_note 10 = .ok (.new 106, 3) := by decide +kernel
theorem dCW_note_13 : decode cCW_note 13 = .ok (.dup, 1) := by decide +kernel
theorem dCW_note_14 : decode cCW_note 14 = .ok (.ldc 108, 2) := by decide +kernel
theorem dCW_note_16 : decode cCW_note 16 = .ok (.invokespecial 110, 3) := by decide +kernel
theorem dCW_note_19 : decode cCW_note 19 = .ok (.athrow, 1) := by decide +kernel
theorem dCW_note_20 : decode cCW_note 20 = .ok (.aload_n 0, 1) := by decide +kernel
theorem dCW_note_21 : decode cCW_note 21 = .ok (.getfield 54, 3) := by decide +kernel
theorem dCW_note_24 : decode cCW_note 24 = .ok (.iload_n 1, 1) := by decide +kernel
theorem dCW_note_25 : decode cCW_note 25 = .ok (.iaload, 1) := by decide +kernel
theorem dCW_note_26 : decode cCW_note 26 = .ok (.ireturn, 1) := by decide +kernel
theorem dCW_show_0 : decode cCW_show 0 = .ok (.aload_n 0, 1) := by decide +kernel
theorem dCW_show_1 : decode cCW_show 1 = .ok (.iload_n 1, 1) := by decide +kernel
theorem dCW_show_2 : decode cCW_show 2 = .ok (.invokevirtual 111, 3) := by decide +kernel
theorem dCW_show_5 : decode cCW_show 5 = .ok (.ifCond .ne 13, 3) := by decide +kernel
theorem dCW_show_8 : decode cCW_show 8 = .ok (.new 75, 3) := by decide +kernel
theorem dCW_show_11 : decode cCW_show 11 = .ok (.dup, 1) := by decide +kernel
theorem dCW_show_12 : decode cCW_show 12 = .ok (.ldc 114, 2) := by decide +kernel
theorem dCW_show_14 : decode cCW_show 14 = .ok (.invokespecial 79, 3) := by decide +kernel
theorem dCW_show_17 : decode cCW_show 17 = .ok (.athrow, 1) := by decide +kernel
theorem dCW_show_18 : decode cCW_show 18 = .ok (.aload_n 0, 1) := by decide +kernel
theorem dCW_show_19 : decode cCW_show 19 = .ok (.getfield 44, 3) := by decide +kernel
theorem dCW_show_22 : decode cCW_show 22 = .ok (.iload_n 1, 1) := by decide +kernel
theorem dCW_show_23 : decode cCW_show 23 = .ok (.aaload, 1) := by decide +kernel
theorem dCW_show_24 : decode cCW_show 24 = .ok (.aload_n 0, 1) := by decide +kernel
theorem dCW_show_25 : decode cCW_show 25 = .ok (.getfield 64, 3) := by decide +kernel
theorem dCW_show_28 : decode cCW_show 28 = .ok (.aload_n 0, 1) := by decide +kernel
theorem dCW_show_29 : decode cCW_show 29 = .ok (.getfield 54, 3) := by decide +kernel
theorem dCW_show_32 : decode cCW_show 32 = .ok (.invokevirtual 116, 3) := by decide +kernel
theorem dCW_show_35 : decode cCW_show 35 = .ok (.aload_n 0, 1) := by decide +kernel
theorem dCW_show_36 : decode cCW_show 36 = .ok (.getfield 44, 3) := by decide +kernel
theorem dCW_show_39 : decode cCW_show 39 = .ok (.iload_n 1, 1) := by decide +kernel
theorem dCW_show_40 : decode cCW_show 40 = .ok (.aaload, 1) := by decide +kernel
theorem dCW_show_41 : decode cCW_show 41 = .ok (.aload_n 0, 1) := by decide +kernel
theorem dCW_show_42 : decode cCW_show 42 = .ok (.getfield 64, 3) := by decide +kernel
theorem dCW_show_45 : decode cCW_show 45 = .ok (.invokevirtual 96, 3) := by decide +kernel
theorem dCW_show_48 : decode cCW_show 48 = .ok (.invokevirtual 120, 3) := by decide +kernel
theorem dCW_show_51 : decode cCW_show 51 = .ok (.ireturn, 1) := by decide +kernel
theorem dCW_take_0 : decode cCW_take 0 = .ok (.aload_n 0, 1) := by decide +kernel
theorem dCW_take_1 : decode cCW_take 1 = .ok (.iload_n 1, 1) := by decide +kernel
theorem dCW_take_2 : decode cCW_take 2 = .ok (.invokevirtual 111, 3) := by decide +kernel
theorem dCW_take_5 : decode cCW_take 5 = .ok (.ifCond .ne 13, 3) := by decide +kernel
theorem dCW_take_8 : decode cCW_take 8 = .ok (.new 75, 3) := by decide +kernel
theorem dCW_take_11 : decode cCW_take 11 = .ok (.dup, 1) := by decide +kernel
theorem dCW_take_12 : decode cCW_take 12 = .ok (.ldc 114, 2) := by decide +kernel
theorem dCW_take_14 : decode cCW_take 14 = .ok (.invokespecial 79, 3) := by decide +kernel
theorem dCW_take_17 : decode cCW_take 17 = .ok (.athrow, 1) := by decide +kernel
theorem dCW_take_18 : decode cCW_take 18 = .ok (.aload_n 0, 1) := by decide +kernel
theorem dCW_take_19 : decode cCW_take 19 = .ok (.aload_n 0, 1) := by decide +kernel
theorem dCW_take_20 : decode cCW_take 20 = .ok (.getfield 44, 3) := by decide +kernel
theorem dCW_take_23 : decode cCW_take 23 = .ok (.iload_n 1, 1) := by decide +kernel
theorem dCW_take_24 : decode cCW_take 24 = .ok (.aaload, 1) := by decide +kernel
theorem dCW_take_25 : decode cCW_take 25 = .ok (.invokevirtual 123, 3) := by decide +kernel
theorem dCW_take_28 : decode cCW_take 28 = .ok (.ifCond .ne 13, 3) := by decide +kernel
theorem dCW_take_31 : decode cCW_take 31 = .ok (.new 127, 3) := by decide +kernel
theorem dCW_take_34 : decode cCW_take 34 = .ok (.dup, 1) := by decide +kernel
theorem dCW_take_35 : decode cCW_take 35 = .ok (.ldc 129, 2) := by decide +kernel
theorem dCW_take_37 : decode cCW_take 37 = .ok (.invokespecial 131, 3) := by decide +kernel
theorem dCW_take_40 : decode cCW_take 40 = .ok (.athrow, 1) := by decide +kernel
theorem dCW_take_41 : decode cCW_take 41 = .ok (.aload_n 0, 1) := by decide +kernel
theorem dCW_take_42 : decode cCW_take 42 = .ok (.invokevirtual 132, 3) := by decide +kernel
theorem dCW_take_45 : decode cCW_take 45 = .ok (.ireturn, 1) := by decide +kernel
theorem dCW_mirror_0 : decode cCW_mirror 0 = .ok (.aload_n 0, 1) := by decide +kernel
theorem dCW_mirror_1 : decode cCW_mirror 1 = .ok (.getfield 68, 3) := by decide +kernel
theorem dCW_mirror_4 : decode cCW_mirror 4 = .ok (.aload_n 0, 1) := by decide +kernel
theorem dCW_mirror_5 : decode cCW_mirror 5 = .ok (.getfield 64, 3) := by decide +kernel
theorem dCW_mirror_8 : decode cCW_mirror 8 = .ok (.invokevirtual 96, 3) := by decide +kernel
theorem dCW_mirror_11 : decode cCW_mirror 11 = .ok (.invokevirtual 135, 3) := by decide +kernel
theorem dCW_mirror_14 : decode cCW_mirror 14 = .ok (.iconst 0, 1) := by decide +kernel
theorem dCW_mirror_15 : decode cCW_mirror 15 = .ok (.istore_n 1, 1) := by decide +kernel
theorem dCW_mirror_16 : decode cCW_mirror 16 = .ok (.aload_n 0, 1) := by decide +kernel
theorem dCW_mirror_17 : decode cCW_mirror 17 = .ok (.getfield 64, 3) := by decide +kernel
theorem dCW_mirror_20 : decode cCW_mirror 20 = .ok (.invokevirtual 139, 3) := by decide +kernel
theorem dCW_mirror_23 : decode cCW_mirror 23 = .ok (.iconst 1, 1) := by decide +kernel
theorem dCW_mirror_24 : decode cCW_mirror 24 = .ok (.isub, 1) := by decide +kernel
theorem dCW_mirror_25 : decode cCW_mirror 25 = .ok (.istore_n 2, 1) := by decide +kernel
theorem dCW_mirror_26 : decode cCW_mirror 26 = .ok (.iload_n 2, 1) := by decide +kernel
theorem dCW_mirror_27 : decode cCW_mirror 27 = .ok (.ifCond .lt 34, 3) := by decide +kernel
theorem dCW_mirror_30 : decode cCW_mirror 30 = .ok (.aload_n 0, 1) := by decide +kernel
theorem dCW_mirror_31 : decode cCW_mirror 31 = .ok (.getfield 64, 3) := by decide +kernel
theorem dCW_mirror_34 : decode cCW_mirror 34 = .ok (.iload_n 2, 1) := by decide +kernel
theorem dCW_mirror_35 : decode cCW_mirror 35 = .ok (.invokevirtual 141, 3) := by decide +kernel
theorem dCW_mirror_38 : decode cCW_mirror 38 = .ok (.ifCond .eq 14, 3) := by decide +kernel
theorem dCW_mirror_41 : decode cCW_mirror 41 = .ok (.aload_n 0, 1) := by decide +kernel
theorem dCW_mirror_42 : decode cCW_mirror 42 = .ok (.getfield 68, 3) := by decide +kernel
theorem dCW_mirror_45 : decode cCW_mirror 45 = .ok (.iload_n 1, 1) := by decide +kernel
theorem dCW_mirror_46 : decode cCW_mirror 46 = .ok (.invokevirtual 144, 3) := by decide +kernel
theorem dCW_mirror_49 : decode cCW_mirror 49 = .ok (.goto 6, 3) := by decide +kernel
theorem dCW_mirror_52 : decode cCW_mirror 52 = .ok (.iinc 1 1, 3) := by decide +kernel
theorem dCW_mirror_55 : decode cCW_mirror 55 = .ok (.iinc 2 (-1), 3) := by decide +kernel
theorem dCW_mirror_58 : decode cCW_mirror 58 = .ok (.goto (-32), 3) := by decide +kernel
theorem dCW_mirror_61 : decode cCW_mirror 61 = .ok (.aload_n 0, 1) := by decide +kernel
theorem dCW_mirror_62 : decode cCW_mirror 62 = .ok (.invokevirtual 147, 3) := by decide +kernel
theorem dCW_mirror_65 : decode cCW_mirror 65 = .ok (.ireturn, 1) := by decide +kernel
theorem dCW_turn_0 : decode cCW_turn 0 = .ok (.aload_n 0, 1) := by decide +kernel
theorem dCW_turn_1 : decode cCW_turn 1 = .ok (.getfield 68, 3) := by decide +kernel
theorem dCW_turn_4 : decode cCW_turn 4 = .ok (.aload_n 0, 1) := by decide +kernel
theorem dCW_turn_5 : decode cCW_turn 5 = .ok (.getfield 64, 3) := by decide +kernel
theorem dCW_turn_8 : decode cCW_turn 8 = .ok (.invokevirtual 96, 3) := by decide +kernel
theorem dCW_turn_11 : decode cCW_turn 11 = .ok (.invokevirtual 135, 3) := by decide +kernel
theorem dCW_turn_14 : decode cCW_turn 14 = .ok (.aload_n 0, 1) := by decide +kernel
theorem dCW_turn_15 : decode cCW_turn 15 = .ok (.getfield 26, 3) := by decide +kernel
theorem dCW_turn_18 : decode cCW_turn 18 = .ok (.aload_n 0, 1) := by decide +kernel
theorem dCW_turn_19 : decode cCW_turn 19 = .ok (.getfield 64, 3) := by decide +kernel
theorem dCW_turn_22 : decode cCW_turn 22 = .ok (.invokevirtual 150, 3) := by decide +kernel
theorem dCW_turn_25 : decode cCW_turn 25 = .ok (.aload_n 0, 1) := by decide +kernel
theorem dCW_turn_26 : decode cCW_turn 26 = .ok (.getfield 26, 3) := by decide +kernel
theorem dCW_turn_29 : decode cCW_turn 29 = .ok (.invokevirtual 154, 3) := by decide +kernel
theorem dCW_turn_32 : decode cCW_turn 32 = .ok (.aload_n 0, 1) := by decide +kernel
theorem dCW_turn_33 : decode cCW_turn 33 = .ok (.getfield 26, 3) := by decide +kernel
theorem dCW_turn_36 : decode cCW_turn 36 = .ok (.aload_n 0, 1) := by decide +kernel
theorem dCW_turn_37 : decode cCW_turn 37 = .ok (.getfield 68, 3) := by decide +kernel
theorem dCW_turn_40 : decode cCW_turn 40 = .ok (.invokevirtual 157, 3) := by decide +kernel
theorem dCW_turn_43 : decode cCW_turn 43 = .ok (.aload_n 0, 1) := by decide +kernel
theorem dCW_turn_44 : decode cCW_turn 44 = .ok (.invokevirtual 147, 3) := by decide +kernel
theorem dCW_turn_47 : decode cCW_turn 47 = .ok (.ireturn, 1) := by decide +kernel
theorem dCW_complement_0 : decode cCW_complement 0 = .ok (.aload_n 0, 1) := by decide +kernel
theorem dCW_complement_1 : decode cCW_complement 1 = .ok (.getfield 68, 3) := by decide +kernel
theorem dCW_complement_4 : decode cCW_complement 4 = .ok (.aload_n 0, 1) := by decide +kernel
theorem dCW_complement_5 : decode cCW_complement 5 = .ok (.getfield 64, 3) := by decide +kernel
theorem dCW_complement_8 : decode cCW_complement 8 = .ok (.invokevirtual 96, 3) := by decide +kernel
theorem dCW_complement_11 : decode cCW_complement 11 = .ok (.invokevirtual 135, 3) := by decide +kernel
theorem dCW_complement_14 : decode cCW_complement 14 = .ok (.aload_n 0, 1) := by decide +kernel
theorem dCW_complement_15 : decode cCW_complement 15 = .ok (.getfield 19, 3) := by decide +kernel
theorem dCW_complement_18 : decode cCW_complement 18 = .ok (.aload_n 0, 1) := by decide +kernel
theorem dCW_complement_19 : decode cCW_complement 19 = .ok (.getfield 64, 3) := by decide +kernel
theorem dCW_complement_22 : decode cCW_complement 22 = .ok (.aload_n 0, 1) := by decide +kernel
theorem dCW_complement_23 : decode cCW_complement 23 = .ok (.getfield 68, 3) := by decide +kernel
theorem dCW_complement_26 : decode cCW_complement 26 = .ok (.invokevirtual 160, 3) := by decide +kernel
theorem dCW_complement_29 : decode cCW_complement 29 = .ok (.aload_n 0, 1) := by decide +kernel
theorem dCW_complement_30 : decode cCW_complement 30 = .ok (.invokevirtual 147, 3) := by decide +kernel
theorem dCW_complement_33 : decode cCW_complement 33 = .ok (.ireturn, 1) := by decide +kernel
theorem dCW_flip_0 : decode cCW_flip 0 = .ok (.iload_n 1, 1) := by decide +kernel
theorem dCW_flip_1 : decode cCW_flip 1 = .ok (.ifCond .lt 16, 3) := by decide +kernel
theorem dCW_flip_4 : decode cCW_flip 4 = .ok (.iload_n 1, 1) := by decide +kernel
theorem dCW_flip_5 : decode cCW_flip 5 = .ok (.aload_n 0, 1) := by decide +kernel
theorem dCW_flip_6 : decode cCW_flip 6 = .ok (.getfield 64, 3) := by decide +kernel
theorem dCW_flip_9 : decode cCW_flip 9 = .ok (.invokevirtual 96, 3) := by decide +kernel
theorem dCW_flip_12 : decode cCW_flip 12 = .ok (.iconst 1, 1) := by decide +kernel
theorem dCW_flip_13 : decode cCW_flip 13 = .ok (.isub, 1) := by decide +kernel
theorem dCW_flip_14 : decode cCW_flip 14 = .ok (.if_icmp .lt 13, 3) := by decide +kernel
theorem dCW_flip_17 : decode cCW_flip 17 = .ok (.new 106, 3) := by decide +kernel
theorem dCW_flip_20 : decode cCW_flip 20 = .ok (.dup, 1) := by decide +kernel
theorem dCW_flip_21 : decode cCW_flip 21 = .ok (.ldc 164, 2) := by decide +kernel
theorem dCW_flip_23 : decode cCW_flip 23 = .ok (.invokespecial 110, 3) := by decide +kernel
theorem dCW_flip_26 : decode cCW_flip 26 = .ok (.athrow, 1) := by decide +kernel
theorem dCW_flip_27 : decode cCW_flip 27 = .ok (.aload_n 0, 1) := by decide +kernel
theorem dCW_flip_28 : decode cCW_flip 28 = .ok (.getfield 68, 3) := by decide +kernel
theorem dCW_flip_31 : decode cCW_flip 31 = .ok (.aload_n 0, 1) := by decide +kernel
theorem dCW_flip_32 : decode cCW_flip 32 = .ok (.getfield 64, 3) := by decide +kernel
theorem dCW_flip_35 : decode cCW_flip 35 = .ok (.invokevirtual 96, 3) := by decide +kernel
theorem dCW_flip_38 : decode cCW_flip 38 = .ok (.invokevirtual 135, 3) := by decide +kernel
theorem dCW_flip_41 : decode cCW_flip 41 = .ok (.aload_n 0, 1) := by decide +kernel
theorem dCW_flip_42 : decode cCW_flip 42 = .ok (.getfield 26, 3) := by decide +kernel
theorem dCW_flip_45 : decode cCW_flip 45 = .ok (.aload_n 0, 1) := by decide +kernel
theorem dCW_flip_46 : decode cCW_flip 46 = .ok (.getfield 64, 3) := by decide +kernel
theorem dCW_flip_49 : decode cCW_flip 49 = .ok (.invokevirtual 150, 3) := by decide +kernel
theorem dCW_flip_52 : decode cCW_flip 52 = .ok (.aload_n 0, 1) := by decide +kernel
theorem dCW_flip_53 : decode cCW_flip 53 = .ok (.getfield 26, 3) := by decide +kernel
theorem dCW_flip_56 : decode cCW_flip 56 = .ok (.iload_n 1, 1) := by decide +kernel
theorem dCW_flip_57 : decode cCW_flip 57 = .ok (.invokevirtual 166, 3) := by decide +kernel
theorem dCW_flip_60 : decode cCW_flip 60 = .ok (.aload_n 0, 1) := by decide +kernel
theorem dCW_flip_61 : decode cCW_flip 61 = .ok (.getfield 26, 3) := by decide +kernel
theorem dCW_flip_64 : decode cCW_flip 64 = .ok (.aload_n 0, 1) := by decide +kernel
theorem dCW_flip_65 : decode cCW_flip 65 = .ok (.getfield 68, 3) := by decide +kernel
theorem dCW_flip_68 : decode cCW_flip 68 = .ok (.invokevirtual 157, 3) := by decide +kernel
theorem dCW_flip_71 : decode cCW_flip 71 = .ok (.aload_n 0, 1) := by decide +kernel
theorem dCW_flip_72 : decode cCW_flip 72 = .ok (.invokevirtual 147, 3) := by decide +kernel
theorem dCW_flip_75 : decode cCW_flip 75 = .ok (.ireturn, 1) := by decide +kernel
theorem dCW_flips_0 : decode cCW_flips 0 = .ok (.aload_n 0, 1) := by decide +kernel
theorem dCW_flips_1 : decode cCW_flips 1 = .ok (.getfield 64, 3) := by decide +kernel
theorem dCW_flips_4 : decode cCW_flips 4 = .ok (.invokevirtual 96, 3) := by decide +kernel
theorem dCW_flips_7 : decode cCW_flips 7 = .ok (.bipush 6, 2) := by decide +kernel
theorem dCW_flips_9 : decode cCW_flips 9 = .ok (.if_icmp .gt 11, 3) := by decide +kernel
theorem dCW_flips_12 : decode cCW_flips 12 = .ok (.aload_n 0, 1) := by decide +kernel
theorem dCW_flips_13 : decode cCW_flips 13 = .ok (.iload_n 1, 1) := by decide +kernel
theorem dCW_flips_14 : decode cCW_flips 14 = .ok (.invokevirtual 90, 3) := by decide +kernel
theorem dCW_flips_17 : decode cCW_flips 17 = .ok (.ifCond .ne 13, 3) := by decide +kernel
theorem dCW_flips_20 : decode cCW_flips 20 = .ok (.new 75, 3) := by decide +kernel
theorem dCW_flips_23 : decode cCW_flips 23 = .ok (.dup, 1) := by decide +kernel
theorem dCW_flips_24 : decode cCW_flips 24 = .ok (.ldc 169, 2) := by decide +kernel
theorem dCW_flips_26 : decode cCW_flips 26 = .ok (.invokespecial 79, 3) := by decide +kernel
theorem dCW_flips_29 : decode cCW_flips 29 = .ok (.athrow, 1) := by decide +kernel
theorem dCW_flips_30 : decode cCW_flips 30 = .ok (.aload_n 0, 1) := by decide +kernel
theorem dCW_flips_31 : decode cCW_flips 31 = .ok (.aload_n 0, 1) := by decide +kernel
theorem dCW_flips_32 : decode cCW_flips 32 = .ok (.getfield 64, 3) := by decide +kernel
theorem dCW_flips_35 : decode cCW_flips 35 = .ok (.invokevirtual 96, 3) := by decide +kernel
theorem dCW_flips_38 : decode cCW_flips 38 = .ok (.invokevirtual 171, 3) := by decide +kernel
theorem dCW_flips_41 : decode cCW_flips 41 = .ok (.aload_n 0, 1) := by decide +kernel
theorem dCW_flips_42 : decode cCW_flips 42 = .ok (.getfield 10, 3) := by decide +kernel
theorem dCW_flips_45 : decode cCW_flips 45 = .ok (.aload_n 0, 1) := by decide +kernel
theorem dCW_flips_46 : decode cCW_flips 46 = .ok (.getfield 64, 3) := by decide +kernel
theorem dCW_flips_49 : decode cCW_flips 49 = .ok (.invokevirtual 86, 3) := by decide +kernel
theorem dCW_flips_52 : decode cCW_flips 52 = .ok (.iload_n 1, 1) := by decide +kernel
theorem dCW_flips_53 : decode cCW_flips 53 = .ok (.invokevirtual 175, 3) := by decide +kernel
theorem dCW_flips_56 : decode cCW_flips 56 = .ok (.ireturn, 1) := by decide +kernel
theorem dCW_isRank_0 : decode cCW_isRank 0 = .ok (.iload_n 1, 1) := by decide +kernel
theorem dCW_isRank_1 : decode cCW_isRank 1 = .ok (.ifCond .lt 25, 3) := by decide +kernel
theorem dCW_isRank_4 : decode cCW_isRank 4 = .ok (.iload_n 1, 1) := by decide +kernel
theorem dCW_isRank_5 : decode cCW_isRank 5 = .ok (.aload_n 0, 1) := by decide +kernel
theorem dCW_isRank_6 : decode cCW_isRank 6 = .ok (.getfield 10, 3) := by decide +kernel
theorem dCW_isRank_9 : decode cCW_isRank 9 = .ok (.aload_n 0, 1) := by decide +kernel
theorem dCW_isRank_10 : decode cCW_isRank 10 = .ok (.getfield 64, 3) := by decide +kernel
theorem dCW_isRank_13 : decode cCW_isRank 13 = .ok (.invokevirtual 96, 3) := by decide +kernel
theorem dCW_isRank_16 : decode cCW_isRank 16 = .ok (.invokevirtual 82, 3) := by decide +kernel
theorem dCW_isRank_19 : decode cCW_isRank 19 = .ok (.if_icmp .ge 7, 3) := by decide +kernel
theorem dCW_isRank_22 : decode cCW_isRank 22 = .ok (.iconst 1, 1) := by decide +kernel
theorem dCW_isRank_23 : decode cCW_isRank 23 = .ok (.goto 4, 3) := by decide +kernel
theorem dCW_isRank_26 : decode cCW_isRank 26 = .ok (.iconst 0, 1) := by decide +kernel
theorem dCW_isRank_27 : decode cCW_isRank 27 = .ok (.ireturn, 1) := by decide +kernel
theorem dCW_isFamily_0 : decode cCW_isFamily 0 = .ok (.iload_n 1, 1) := by decide +kernel
theorem dCW_isFamily_1 : decode cCW_isFamily 1 = .ok (.ifCond .lt 16, 3) := by decide +kernel
theorem dCW_isFamily_4 : decode cCW_isFamily 4 = .ok (.iload_n 1, 1) := by decide +kernel
theorem dCW_isFamily_5 : decode cCW_isFamily 5 = .ok (.aload_n 0, 1) := by decide +kernel
theorem dCW_isFamily_6 : decode cCW_isFamily 6 = .ok (.getfield 44, 3) := by decide +kernel
theorem dCW_isFamily_9 : decode cCW_isFamily 9 = .ok (.arraylength, 1) := by decide +kernel
theorem dCW_isFamily_10 : decode cCW_isFamily 10 = .ok (.if_icmp .ge 7, 3) := by decide +kernel
theorem dCW_isFamily_13 : decode cCW_isFamily 13 = .ok (.iconst 1, 1) := by decide +kernel
theorem dCW_isFamily_14 : decode cCW_isFamily 14 = .ok (.goto 4, 3) := by decide +kernel
theorem dCW_isFamily_17 : decode cCW_isFamily 17 = .ok (.iconst 0, 1) := by decide +kernel
theorem dCW_isFamily_18 : decode cCW_isFamily 18 = .ok (.ireturn, 1) := by decide +kernel
theorem dCW_draftFromPaper_0 : decode cCW_draftFromPaper 0 = .ok (.aload_n 0, 1) := by decide +kernel
theorem dCW_draftFromPaper_1 : decode cCW_draftFromPaper 1 = .ok (.getfield 68, 3) := by decide +kernel
theorem dCW_draftFromPaper_4 : decode cCW_draftFromPaper 4 = .ok (.aload_n 0, 1) := by decide +kernel
theorem dCW_draftFromPaper_5 : decode cCW_draftFromPaper 5 = .ok (.getfield 64, 3) := by decide +kernel
theorem dCW_draftFromPaper_8 : decode cCW_draftFromPaper 8 = .ok (.invokevirtual 96, 3) := by decide +kernel
theorem dCW_draftFromPaper_11 : decode cCW_draftFromPaper 11 = .ok (.invokevirtual 135, 3) := by decide +kernel
theorem dCW_draftFromPaper_14 : decode cCW_draftFromPaper 14 = .ok (.aload_n 1, 1) := by decide +kernel
theorem dCW_draftFromPaper_15 : decode cCW_draftFromPaper 15 = .ok (.aload_n 0, 1) := by decide +kernel
theorem dCW_draftFromPaper_16 : decode cCW_draftFromPaper 16 = .ok (.getfield 54, 3) := by decide +kernel
theorem dCW_draftFromPaper_19 : decode cCW_draftFromPaper 19 = .ok (.aload_n 0, 1) := by decide +kernel
theorem dCW_draftFromPaper_20 : decode cCW_draftFromPaper 20 = .ok (.getfield 68, 3) := by decide +kernel
theorem dCW_draftFromPaper_23 : decode cCW_draftFromPaper 23 = .ok (.invokevirtual 178, 3) := by decide +kernel
theorem dCW_draftFromPaper_26 : decode cCW_draftFromPaper 26 = .ok (.aload_n 0, 1) := by decide +kernel
theorem dCW_draftFromPaper_27 : decode cCW_draftFromPaper 27 = .ok (.getfield 68, 3) := by decide +kernel
theorem dCW_draftFromPaper_30 : decode cCW_draftFromPaper 30 = .ok (.invokevirtual 182, 3) := by decide +kernel
theorem dCW_draftFromPaper_33 : decode cCW_draftFromPaper 33 = .ok (.ifCond .ne 5, 3) := by decide +kernel
theorem dCW_draftFromPaper_36 : decode cCW_draftFromPaper 36 = .ok (.iconst 0, 1) := by decide +kernel
theorem dCW_draftFromPaper_37 : decode cCW_draftFromPaper 37 = .ok (.ireturn, 1) := by decide +kernel
theorem dCW_draftFromPaper_38 : decode cCW_draftFromPaper 38 = .ok (.aload_n 1, 1) := by decide +kernel
theorem dCW_draftFromPaper_39 : decode cCW_draftFromPaper 39 = .ok (.aload_n 0, 1) := by decide +kernel
theorem dCW_draftFromPaper_40 : decode cCW_draftFromPaper 40 = .ok (.getfield 68, 3) := by decide +kernel
theorem dCW_draftFromPaper_43 : decode cCW_draftFromPaper 43 = .ok (.aload_n 0, 1) := by decide +kernel
theorem dCW_draftFromPaper_44 : decode cCW_draftFromPaper 44 = .ok (.getfield 58, 3) := by decide +kernel
theorem dCW_draftFromPaper_47 : decode cCW_draftFromPaper 47 = .ok (.invokevirtual 116, 3) := by decide +kernel
theorem dCW_draftFromPaper_50 : decode cCW_draftFromPaper 50 = .ok (.iconst 0, 1) := by decide +kernel
theorem dCW_draftFromPaper_51 : decode cCW_draftFromPaper 51 = .ok (.istore_n 2, 1) := by decide +kernel
theorem dCW_draftFromPaper_52 : decode cCW_draftFromPaper 52 = .ok (.iload_n 2, 1) := by decide +kernel
theorem dCW_draftFromPaper_53 : decode cCW_draftFromPaper 53 = .ok (.aload_n 1, 1) := by decide +kernel
theorem dCW_draftFromPaper_54 : decode cCW_draftFromPaper 54 = .ok (.aload_n 0, 1) := by decide +kernel
theorem dCW_draftFromPaper_55 : decode cCW_draftFromPaper 55 = .ok (.getfield 68, 3) := by decide +kernel
theorem dCW_draftFromPaper_58 : decode cCW_draftFromPaper 58 = .ok (.invokevirtual 96, 3) := by decide +kernel
theorem dCW_draftFromPaper_61 : decode cCW_draftFromPaper 61 = .ok (.invokevirtual 120, 3) := by decide +kernel
theorem dCW_draftFromPaper_64 : decode cCW_draftFromPaper 64 = .ok (.if_icmp .ge 26, 3) := by decide +kernel
theorem dCW_draftFromPaper_67 : decode cCW_draftFromPaper 67 = .ok (.aload_n 0, 1) := by decide +kernel
theorem dCW_draftFromPaper_68 : decode cCW_draftFromPaper 68 = .ok (.getfield 54, 3) := by decide +kernel
theorem dCW_draftFromPaper_71 : decode cCW_draftFromPaper 71 = .ok (.iload_n 2, 1) := by decide +kernel
theorem dCW_draftFromPaper_72 : decode cCW_draftFromPaper 72 = .ok (.iaload, 1) := by decide +kernel
theorem dCW_draftFromPaper_73 : decode cCW_draftFromPaper 73 = .ok (.aload_n 0, 1) := by decide +kernel
theorem dCW_draftFromPaper_74 : decode cCW_draftFromPaper 74 = .ok (.getfield 58, 3) := by decide +kernel
theorem dCW_draftFromPaper_77 : decode cCW_draftFromPaper 77 = .ok (.iload_n 2, 1) := by decide +kernel
theorem dCW_draftFromPaper_78 : decode cCW_draftFromPaper 78 = .ok (.iaload, 1) := by decide +kernel
theorem dCW_draftFromPaper_79 : decode cCW_draftFromPaper 79 = .ok (.if_icmp .eq 5, 3) := by decide +kernel
theorem dCW_draftFromPaper_82 : decode cCW_draftFromPaper 82 = .ok (.iconst 0, 1) := by decide +kernel
theorem dCW_draftFromPaper_83 : decode cCW_draftFromPaper 83 = .ok (.ireturn, 1) := by decide +kernel
theorem dCW_draftFromPaper_84 : decode cCW_draftFromPaper 84 = .ok (.iinc 2 1, 3) := by decide +kernel
theorem dCW_draftFromPaper_87 : decode cCW_draftFromPaper 87 = .ok (.goto (-35), 3) := by decide +kernel
theorem dCW_draftFromPaper_90 : decode cCW_draftFromPaper 90 = .ok (.iconst 1, 1) := by decide +kernel
theorem dCW_draftFromPaper_91 : decode cCW_draftFromPaper 91 = .ok (.ireturn, 1) := by decide +kernel
theorem dCW_adoptFinished_0 : decode cCW_adoptFinished 0 = .ok (.aload_n 0, 1) := by decide +kernel
theorem dCW_adoptFinished_1 : decode cCW_adoptFinished 1 = .ok (.getfield 68, 3) := by decide +kernel
theorem dCW_adoptFinished_4 : decode cCW_adoptFinished 4 = .ok (.invokevirtual 182, 3) := by decide +kernel
theorem dCW_adoptFinished_7 : decode cCW_adoptFinished 7 = .ok (.pop, 1) := by decide +kernel
theorem dCW_adoptFinished_8 : decode cCW_adoptFinished 8 = .ok (.aload_n 0, 1) := by decide +kernel
theorem dCW_adoptFinished_9 : decode cCW_adoptFinished 9 = .ok (.invokevirtual 132, 3) := by decide +kernel
theorem dCW_adoptFinished_12 : decode cCW_adoptFinished 12 = .ok (.ireturn, 1) := by decide +kernel
theorem dCW_adoptDraft_0 : decode cCW_adoptDraft 0 = .ok (.aload_n 0, 1) := by decide +kernel
theorem dCW_adoptDraft_1 : decode cCW_adoptDraft 1 = .ok (.getfield 64, 3) := by decide +kernel
theorem dCW_adoptDraft_4 : decode cCW_adoptDraft 4 = .ok (.astore_n 1, 1) := by decide +kernel
theorem dCW_adoptDraft_5 : decode cCW_adoptDraft 5 = .ok (.aload_n 0, 1) := by decide +kernel
theorem dCW_adoptDraft_6 : decode cCW_adoptDraft 6 = .ok (.aload_n 0, 1) := by decide +kernel
theorem dCW_adoptDraft_7 : decode cCW_adoptDraft 7 = .ok (.getfield 68, 3) := by decide +kernel
theorem dCW_adoptDraft_10 : decode cCW_adoptDraft 10 = .ok (.putfield 64, 3) := by decide +kernel
theorem dCW_adoptDraft_13 : decode cCW_adoptDraft 13 = .ok (.aload_n 0, 1) := by decide +kernel
theorem dCW_adoptDraft_14 : decode cCW_adoptDraft 14 = .ok (.aload_n 1, 1) := by decide +kernel
theorem dCW_adoptDraft_15 : decode cCW_adoptDraft 15 = .ok (.putfield 68, 3) := by decide +kernel
theorem dCW_adoptDraft_18 : decode cCW_adoptDraft 18 = .ok (.aload_n 0, 1) := by decide +kernel
theorem dCW_adoptDraft_19 : decode cCW_adoptDraft 19 = .ok (.getfield 10, 3) := by decide +kernel
theorem dCW_adoptDraft_22 : decode cCW_adoptDraft 22 = .ok (.aload_n 0, 1) := by decide +kernel
theorem dCW_adoptDraft_23 : decode cCW_adoptDraft 23 = .ok (.getfield 64, 3) := by decide +kernel
theorem dCW_adoptDraft_26 : decode cCW_adoptDraft 26 = .ok (.invokevirtual 86, 3) := by decide +kernel
theorem dCW_adoptDraft_29 : decode cCW_adoptDraft 29 = .ok (.ireturn, 1) := by decide +kernel
theorem dCW_graphOf_0 : decode cCW_graphOf 0 = .ok (.aload_n 0, 1) := by decide +kernel
theorem dCW_graphOf_1 : decode cCW_graphOf 1 = .ok (.getfield 50, 3) := by decide +kernel
theorem dCW_graphOf_4 : decode cCW_graphOf 4 = .ok (.iload_n 1, 1) := by decide +kernel
theorem dCW_graphOf_5 : decode cCW_graphOf 5 = .ok (.aaload, 1) := by decide +kernel
theorem dCW_graphOf_6 : decode cCW_graphOf 6 = .ok (.astore_n 2, 1) := by decide +kernel
theorem dCW_graphOf_7 : decode cCW_graphOf 7 = .ok (.aload_n 2, 1) := by decide +kernel
theorem dCW_graphOf_8 : decode cCW_graphOf 8 = .ok (.ifnonnull 27, 3) := by decide +kernel
theorem dCW_graphOf_11 : decode cCW_graphOf 11 = .ok (.new 48, 3) := by decide +kernel
theorem dCW_graphOf_14 : decode cCW_graphOf 14 = .ok (.dup, 1) := by decide +kernel
theorem dCW_graphOf_15 : decode cCW_graphOf 15 = .ok (.iload_n 1, 1) := by decide +kernel
theorem dCW_graphOf_16 : decode cCW_graphOf 16 = .ok (.aload_n 0, 1) := by decide +kernel
theorem dCW_graphOf_17 : decode cCW_graphOf 17 = .ok (.getfield 10, 3) := by decide +kernel
theorem dCW_graphOf_20 : decode cCW_graphOf 20 = .ok (.aload_n 0, 1) := by decide +kernel
theorem dCW_graphOf_21 : decode cCW_graphOf 21 = .ok (.getfield 26, 3) := by decide +kernel
theorem dCW_graphOf_24 : decode cCW_graphOf 24 = .ok (.invokespecial 186, 3) := by decide +kernel
theorem dCW_graphOf_27 : decode cCW_graphOf 27 = .ok (.astore_n 2, 1) := by decide +kernel
theorem dCW_graphOf_28 : decode cCW_graphOf 28 = .ok (.aload_n 0, 1) := by decide +kernel
theorem dCW_graphOf_29 : decode cCW_graphOf 29 = .ok (.getfield 50, 3) := by decide +kernel
theorem dCW_graphOf_32 : decode cCW_graphOf 32 = .ok (.iload_n 1, 1) := by decide +kernel
theorem dCW_graphOf_33 : decode cCW_graphOf 33 = .ok (.aload_n 2, 1) := by decide +kernel
theorem dCW_graphOf_34 : decode cCW_graphOf 34 = .ok (.aastore, 1) := by decide +kernel
theorem dCW_graphOf_35 : decode cCW_graphOf 35 = .ok (.aload_n 2, 1) := by decide +kernel
theorem dCW_graphOf_36 : decode cCW_graphOf 36 = .ok (.areturn, 1) := by decide +kernel
theorem dFG_init_0 : decode cFG_init 0 = .ok (.aload_n 0, 1) := by decide +kernel
theorem dFG_init_1 : decode cFG_init 1 = .ok (.invokespecial 3, 3) := by decide +kernel
theorem dFG_init_4 : decode cFG_init 4 = .ok (.aload_n 0, 1) := by decide +kernel
theorem dFG_init_5 : decode cFG_init 5 = .ok (.aload_n 2, 1) := by decide +kernel
theorem dFG_init_6 : decode cFG_init 6 = .ok (.iload_n 1, 1) := by decide +kernel
theorem dFG_init_7 : decode cFG_init 7 = .ok (.invokevirtual 9, 3) := by decide +kernel
theorem dFG_init_10 : decode cFG_init 10 = .ok (.putfield 15, 3) := by decide +kernel
theorem dFG_init_13 : decode cFG_init 13 = .ok (.aload_n 0, 1) := by decide +kernel
theorem dFG_init_14 : decode cFG_init 14 = .ok (.iload_n 1, 1) := by decide +kernel
theorem dFG_init_15 : decode cFG_init 15 = .ok (.iconst 1, 1) := by decide +kernel
theorem dFG_init_16 : decode cFG_init 16 = .ok (.isub, 1) := by decide +kernel
theorem dFG_init_17 : decode cFG_init 17 = .ok (.putfield 20, 3) := by decide +kernel
theorem dFG_init_20 : decode cFG_init 20 = .ok (.aload_n 0, 1) := by decide +kernel
theorem dFG_init_21 : decode cFG_init 21 = .ok (.aload_n 0, 1) := by decide +kernel
theorem dFG_init_22 : decode cFG_init 22 = .ok (.getfield 15, 3) := by decide +kernel
theorem dFG_init_25 : decode cFG_init 25 = .ok (.aload_n 0, 1) := by decide +kernel
theorem dFG_init_26 : decode cFG_init 26 = .ok (.getfield 20, 3) := by decide +kernel
theorem dFG_init_29 : decode cFG_init 29 = .ok (.imul, 1) := by decide +kernel
theorem dFG_init_30 : decode cFG_init 30 = .ok (.newarray .int, 2) := by decide +kernel
theorem dFG_init_32 : decode cFG_init 32 = .ok (.putfield 23, 3) := by decide +kernel
theorem dFG_init_35 : decode cFG_init 35 = .ok (.aload_n 0, 1) := by decide +kernel
theorem dFG_init_36 : decode cFG_init 36 = .ok (.aload_n 0, 1) := by decide +kernel
theorem dFG_init_37 : decode cFG_init 37 = .ok (.getfield 15, 3) := by decide +kernel
theorem dFG_init_40 : decode cFG_init 40 = .ok (.newarray .int, 2) := by decide +kernel
theorem dFG_init_42 : decode cFG_init 42 = .ok (.putfield 27, 3) := by decide +kernel
theorem dFG_init_45 : decode cFG_init 45 = .ok (.aload_n 0, 1) := by decide +kernel
theorem dFG_init_46 : decode cFG_init 46 = .ok (.aload_n 0, 1) := by decide +kernel
theorem dFG_init_47 : decode cFG_init 47 = .ok (.getfield 15, 3) := by decide +kernel
theorem dFG_init_50 : decode cFG_init 50 = .ok (.newarray .int, 2) := by decide +kernel
theorem dFG_init_52 : decode cFG_init 52 = .ok (.putfield 30, 3) := by decide +kernel
theorem dFG_init_55 : decode cFG_init 55 = .ok (.new 33, 3) := by decide +kernel
theorem dFG_init_58 : decode cFG_init 58 = .ok (.dup, 1) := by decide +kernel
theorem dFG_init_59 : decode cFG_init 59 = .ok (.invokespecial 35, 3) := by decide +kernel
theorem dFG_init_62 : decode cFG_init 62 = .ok (.astore 4, 2) := by decide +kernel
theorem dFG_init_64 : decode cFG_init 64 = .ok (.new 33, 3) := by decide +kernel
theorem dFG_init_67 : decode cFG_init 67 = .ok (.dup, 1) := by decide +kernel
theorem dFG_init_68 : decode cFG_init 68 = .ok (.invokespecial 35, 3) := by decide +kernel
theorem dFG_init_71 : decode cFG_init 71 = .ok (.astore 5, 2) := by decide +kernel
theorem dFG_init_73 : decode cFG_init 73 = .ok (.iconst 0, 1) := by decide +kernel
theorem dFG_init_74 : decode cFG_init 74 = .ok (.istore 6, 2) := by decide +kernel
theorem dFG_init_76 : decode cFG_init 76 = .ok (.iload 6, 2) := by decide +kernel
theorem dFG_init_78 : decode cFG_init 78 = .ok (.aload_n 0, 1) := by decide +kernel
theorem dFG_init_79 : decode cFG_init 79 = .ok (.getfield 15, 3) := by decide +kernel
theorem dFG_init_82 : decode cFG_init 82 = .ok (.if_icmp .ge 87, 3) := by decide +kernel
theorem dFG_init_85 : decode cFG_init 85 = .ok (.aload_n 2, 1) := by decide +kernel
theorem dFG_init_86 : decode cFG_init 86 = .ok (.aload 4, 2) := by decide +kernel
theorem dFG_init_88 : decode cFG_init 88 = .ok (.iload_n 1, 1) := by decide +kernel
theorem dFG_init_89 : decode cFG_init 89 = .ok (.iload 6, 2) := by decide +kernel
theorem dFG_init_91 : decode cFG_init 91 = .ok (.invokevirtual 36, 3) := by decide +kernel
theorem dFG_init_94 : decode cFG_init 94 = .ok (.iconst 0, 1) := by decide +kernel
theorem dFG_init_95 : decode cFG_init 95 = .ok (.istore 7, 2) := by decide +kernel
theorem dFG_init_97 : decode cFG_init 97 = .ok (.iload 7, 2) := by decide +kernel
theorem dFG_init_99 : decode cFG_init 99 = .ok (.aload_n 0, 1) := by decide +kernel
theorem dFG_init_100 : decode cFG_init 100 = .ok (.getfield 20, 3) := by decide +kernel
theorem dFG_init_103 : decode cFG_init 103 = .ok (.if_icmp .ge 60, 3) := by decide +kernel
theorem dFG_init_106 : decode cFG_init 106 = .ok (.aload_n 3, 1) := by decide +kernel
theorem dFG_init_107 : decode cFG_init 107 = .ok (.aload 4, 2) := by decide +kernel
theorem dFG_init_109 : decode cFG_init 109 = .ok (.invokevirtual 40, 3) := by decide +kernel
theorem dFG_init_112 : decode cFG_init 112 = .ok (.aload_n 3, 1) := by decide +kernel
theorem dFG_init_113 : decode cFG_init 113 = .ok (.iload 7, 2) := by decide +kernel
theorem dFG_init_115 : decode cFG_init 115 = .ok (.invokevirtual 46, 3) := by decide +kernel
theorem dFG_init_118 : decode cFG_init 118 = .ok (.aload 5, 2) := by decide +kernel
theorem dFG_init_120 : decode cFG_init 120 = .ok (.iload_n 1, 1) := by decide +kernel
theorem dFG_init_121 : decode cFG_init 121 = .ok (.invokevirtual 50, 3) := by decide +kernel
theorem dFG_init_124 : decode cFG_init 124 = .ok (.aload_n 3, 1) := by decide +kernel
theorem dFG_init_125 : decode cFG_init 125 = .ok (.aload 5, 2) := by decide +kernel
theorem dFG_init_127 : decode cFG_init 127 = .ok (.invokevirtual 53, 3) := by decide +kernel
theorem dFG_init_130 : decode cFG_init 130 = .ok (.aload 5, 2) := by decide +kernel
theorem dFG_init_132 : decode cFG_init 132 = .ok (.invokevirtual 56, 3) := by decide +kernel
theorem dFG_init_135 : decode cFG_init 135 = .ok (.pop, 1) := by decide +kernel
theorem dFG_init_136 : decode cFG_init 136 = .ok (.aload_n 0, 1) := by decide +kernel
theorem dFG_init_137 : decode cFG_init 137 = .ok (.getfield 23, 3) := by decide +kernel
theorem dFG_init_140 : decode cFG_init 140 = .ok (.iload 6, 2) := by decide +kernel
theorem dFG_init_142 : decode cFG_init 142 = .ok (.aload_n 0, 1) := by decide +kernel
theorem dFG_init_143 : decode cFG_init 143 = .ok (.getfield 20, 3) := by decide +kernel
theorem dFG_init_146 : decode cFG_init 146 = .ok (.imul, 1) := by decide +kernel
theorem dFG_init_147 : decode cFG_init 147 = .ok (.iload 7, 2) := by decide +kernel
theorem dFG_init_149 : decode cFG_init 149 = .ok (.iadd, 1) := by decide +kernel
theorem dFG_init_150 : decode cFG_init 150 = .ok (.aload_n 2, 1) := by decide +kernel
theorem dFG_init_151 : decode cFG_init 151 = .ok (.aload 5, 2) := by decide +kernel
theorem dFG_init_153 : decode cFG_init 153 = .ok (.invokevirtual 60, 3) := by decide +kernel
theorem dFG_init_156 : decode cFG_init 156 = .ok (.iastore, 1) := by decide +kernel
theorem dFG_init_157 : decode cFG_init 157 = .ok (.iinc 7 1, 3) := by decide +kernel
theorem dFG_init_160 : decode cFG_init 160 = .ok (.goto (-63), 3) := by decide +kernel
theorem dFG_init_163 : decode cFG_init 163 = .ok (.iinc 6 1, 3) := by decide +kernel
theorem dFG_init_166 : decode cFG_init 166 = .ok (.goto (-90), 3) := by decide +kernel
theorem dFG_init_169 : decode cFG_init 169 = .ok (.return_, 1) := by decide +kernel
theorem dFG_distance_0 : decode cFG_distance 0 = .ok (.aload_n 0, 1) := by decide +kernel
theorem dFG_distance_1 : decode cFG_distance 1 = .ok (.getfield 27, 3) := by decide +kernel
theorem dFG_distance_4 : decode cFG_distance 4 = .ok (.iconst (-1), 1) := by decide +kernel
theorem dFG_distance_5 : decode cFG_distance 5 = .ok (.invokestatic 64, 3) := by decide +kernel
theorem dFG_distance_8 : decode cFG_distance 8 = .ok (.aload_n 0, 1) := by decide +kernel
theorem dFG_distance_9 : decode cFG_distance 9 = .ok (.getfield 27, 3) := by decide +kernel
theorem dFG_distance_12 : decode cFG_distance 12 = .ok (.iload_n 1, 1) := by decide +kernel
theorem dFG_distance_13 : decode cFG_distance 13 = .ok (.iconst 0, 1) := by decide +kernel
theorem dFG_distance_14 : decode cFG_distance 14 = .ok (.iastore, 1) := by decide +kernel
theorem dFG_distance_15 : decode cFG_distance 15 = .ok (.aload_n 0, 1) := by decide +kernel
theorem dFG_distance_16 : decode cFG_distance 16 = .ok (.getfield 30, 3) := by decide +kernel
theorem dFG_distance_19 : decode cFG_distance 19 = .ok (.iconst 0, 1) := by decide +kernel
theorem dFG_distance_20 : decode cFG_distance 20 = .ok (.iload_n 1, 1) := by decide +kernel
theorem dFG_distance_21 : decode cFG_distance 21 = .ok (.iastore, 1) := by decide +kernel
theorem dFG_distance_22 : decode cFG_distance 22 = .ok (.iconst 1, 1) := by decide +kernel
theorem dFG_distance_23 : decode cFG_distance 23 = .ok (.istore_n 3, 1) := by decide +kernel
theorem dFG_distance_24 : decode cFG_distance 24 = .ok (.iconst 0, 1) := by decide +kernel
theorem dFG_distance_25 : decode cFG_distance 25 = .ok (.istore 4, 2) := by decide +kernel
theorem dFG_distance_27 : decode cFG_distance 27 = .ok (.iload 4, 2) := by decide +kernel
theorem dFG_distance_29 : decode cFG_distance 29 = .ok (.aload_n 0, 1) := by decide +kernel
theorem dFG_distance_30 : decode cFG_distance 30 = .ok (.getfield 15, 3) := by decide +kernel
theorem dFG_distance_33 : decode cFG_distance 33 = .ok (.if_icmp .ge 38, 3) := by decide +kernel
theorem dFG_distance_36 : decode cFG_distance 36 = .ok (.iload 4, 2) := by decide +kernel
theorem dFG_distance_38 : decode cFG_distance 38 = .ok (.iload_n 3, 1) := by decide +kernel
theorem dFG_distance_39 : decode cFG_distance 39 = .ok (.if_icmp .ge 32, 3) := by decide +kernel
theorem dFG_distance_42 : decode cFG_distance 42 = .ok (.aload_n 0, 1) := by decide +kernel
theorem dFG_distance_43 : decode cFG_distance 43 = .ok (.getfield 27, 3) := by decide +kernel
theorem dFG_distance_46 : decode cFG_distance 46 = .ok (.iload_n 2, 1) := by decide +kernel
theorem dFG_distance_47 : decode cFG_distance 47 = .ok (.iaload, 1) := by decide +kernel
theorem dFG_distance_48 : decode cFG_distance 48 = .ok (.iconst (-1), 1) := by decide +kernel
theorem dFG_distance_49 : decode cFG_distance 49 = .ok (.if_icmp .ne 22, 3) := by decide +kernel
theorem dFG_distance_52 : decode cFG_distance 52 = .ok (.aload_n 0, 1) := by decide +kernel
theorem dFG_distance_53 : decode cFG_distance 53 = .ok (.aload_n 0, 1) := by decide +kernel
theorem dFG_distance_54 : decode cFG_distance 54 = .ok (.getfield 30, 3) := by decide +kernel
theorem dFG_distance_57 : decode cFG_distance 57 = .ok (.iload 4, 2) := by decide +kernel
theorem dFG_distance_59 : decode cFG_distance 59 = .ok (.iaload, 1) := by decide +kernel
theorem dFG_distance_60 : decode cFG_distance 60 = .ok (.iload_n 3, 1) := by decide +kernel
theorem dFG_distance_61 : decode cFG_distance 61 = .ok (.invokevirtual 70, 3) := by decide +kernel
theorem dFG_distance_64 : decode cFG_distance 64 = .ok (.istore_n 3, 1) := by decide +kernel
theorem dFG_distance_65 : decode cFG_distance 65 = .ok (.iinc 4 1, 3) := by decide +kernel
theorem dFG_distance_68 : decode cFG_distance 68 = .ok (.goto (-41), 3) := by decide +kernel
theorem dFG_distance_71 : decode cFG_distance 71 = .ok (.aload_n 0, 1) := by decide +kernel
theorem dFG_distance_72 : decode cFG_distance 72 = .ok (.getfield 27, 3) := by decide +kernel
theorem dFG_distance_75 : decode cFG_distance 75 = .ok (.iload_n 2, 1) := by decide +kernel
theorem dFG_distance_76 : decode cFG_distance 76 = .ok (.iaload, 1) := by decide +kernel
theorem dFG_distance_77 : decode cFG_distance 77 = .ok (.ireturn, 1) := by decide +kernel
theorem dFG_findNeighbours_0 : decode cFG_findNeighbours 0 = .ok (.iload_n 2, 1) := by decide +kernel
theorem dFG_findNeighbours_1 : decode cFG_findNeighbours 1 = .ok (.istore_n 3, 1) := by decide +kernel
theorem dFG_findNeighbours_2 : decode cFG_findNeighbours 2 = .ok (.iconst 0, 1) := by decide +kernel
theorem dFG_findNeighbours_3 : decode cFG_findNeighbours 3 = .ok (.istore 4, 2) := by decide +kernel
theorem dFG_findNeighbours_5 : decode cFG_findNeighbours 5 = .ok (.iload 4, 2) := by decide +kernel
theorem dFG_findNeighbours_7 : decode cFG_findNeighbours 7 = .ok (.aload_n 0, 1) := by decide +kernel
theorem dFG_findNeighbours_8 : decode cFG_findNeighbours 8 = .ok (.getfield 20, 3) := by decide +kernel
theorem dFG_findNeighbours_11 : decode cFG_findNeighbours 11 = .ok (.if_icmp .ge 62, 3) := by decide +kernel
theorem dFG_findNeighbours_14 : decode cFG_findNeighbours 14 = .ok (.aload_n 0, 1) := by decide +kernel
theorem dFG_findNeighbours_15 : decode cFG_findNeighbours 15 = .ok (.getfield 23, 3) := by decide +kernel
theorem dFG_findNeighbours_18 : decode cFG_findNeighbours 18 = .ok (.iload_n 1, 1) := by decide +kernel
theorem dFG_findNeighbours_19 : decode cFG_findNeighbours 19 = .ok (.aload_n 0, 1) := by decide +kernel
theorem dFG_findNeighbours_20 : decode cFG_findNeighbours 20 = .ok (.getfield 20, 3) := by decide +kernel
theorem dFG_findNeighbours_23 : decode cFG_findNeighbours 23 = .ok (.imul, 1) := by decide +kernel
theorem dFG_findNeighbours_24 : decode cFG_findNeighbours 24 = .ok (.iload 4, 2) := by decide +kernel
theorem dFG_findNeighbours_26 : decode cFG_findNeighbours 26 = .ok (.iadd, 1) := by decide +kernel
theorem dFG_findNeighbours_27 : decode cFG_findNeighbours 27 = .ok (.iaload, 1) := by decide +kernel
theorem dFG_findNeighbours_28 : decode cFG_findNeighbours 28 = .ok (.istore 5, 2) := by decide +kernel
theorem dFG_findNeighbours_30 : decode cFG_findNeighbours 30 = .ok (.aload_n 0, 1) := by decide +kernel
theorem dFG_findNeighbours_31 : decode cFG_findNeighbours 31 = .ok (.getfield 27, 3) := by decide +kernel
theorem dFG_findNeighbours_34 : decode cFG_findNeighbours 34 = .ok (.iload 5, 2) := by decide +kernel
theorem dFG_findNeighbours_36 : decode cFG_findNeighbours 36 = .ok (.iaload, 1) := by decide +kernel
theorem dFG_findNeighbours_37 : decode cFG_findNeighbours 37 = .ok (.iconst (-1), 1) := by decide +kernel
theorem dFG_findNeighbours_38 : decode cFG_findNeighbours 38 = .ok (.if_icmp .ne 29, 3) := by decide +kernel
theorem dFG_findNeighbours_41 : decode cFG_findNeighbours 41 = .ok (.aload_n 0, 1) := by decide +kernel
theorem dFG_findNeighbours_42 : decode cFG_findNeighbours 42 = .ok (.getfield 27, 3) := by decide +kernel
theorem dFG_findNeighbours_45 : decode cFG_findNeighbours 45 = .ok (.iload 5, 2) := by decide +kernel
theorem dFG_findNeighbours_47 : decode cFG_findNeighbours 47 = .ok (.aload_n 0, 1) := by decide +kernel
theorem dFG_findNeighbours_48 : decode cFG_findNeighbours 48 = .ok (.getfield 27, 3) := by decide +kernel
theorem dFG_findNeighbours_51 : decode cFG_findNeighbours 51 = .ok (.iload_n 1, 1) := by decide +kernel
theorem dFG_findNeighbours_52 : decode cFG_findNeighbours 52 = .ok (.iaload, 1) := by decide +kernel
theorem dFG_findNeighbours_53 : decode cFG_findNeighbours 53 = .ok (.iconst 1, 1) := by decide +kernel
theorem dFG_findNeighbours_54 : decode cFG_findNeighbours 54 = .ok (.iadd, 1) := by decide +kernel
theorem dFG_findNeighbours_55 : decode cFG_findNeighbours 55 = .ok (.iastore, 1) := by decide +kernel
theorem dFG_findNeighbours_56 : decode cFG_findNeighbours 56 = .ok (.aload_n 0, 1) := by decide +kernel
theorem dFG_findNeighbours_57 : decode cFG_findNeighbours 57 = .ok (.getfield 30, 3) := by decide +kernel
theorem dFG_findNeighbours_60 : decode cFG_findNeighbours 60 = .ok (.iload_n 3, 1) := by decide +kernel
theorem dFG_findNeighbours_61 : decode cFG_findNeighbours 61 = .ok (.iload 5, 2) := by decide +kernel
theorem dFG_findNeighbours_63 : decode cFG_findNeighbours 63 = .ok (.iastore, 1) := by decide +kernel
theorem dFG_findNeighbours_64 : decode cFG_findNeighbours 64 = .ok (.iinc 3 1, 3) := by decide +kernel
theorem dFG_findNeighbours_67 : decode cFG_findNeighbours 67 = .ok (.iinc 4 1, 3) := by decide +kernel
theorem dFG_findNeighbours_70 : decode cFG_findNeighbours 70 = .ok (.goto (-65), 3) := by decide +kernel
theorem dFG_findNeighbours_73 : decode cFG_findNeighbours 73 = .ok (.iload_n 3, 1) := by decide +kernel
theorem dFG_findNeighbours_74 : decode cFG_findNeighbours 74 = .ok (.ireturn, 1) := by decide +kernel
