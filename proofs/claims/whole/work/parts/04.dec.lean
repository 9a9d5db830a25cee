theorem dX0_init_0 : decode cX0_init 0 = .ok (.aload_n 0, 1) := by decide +kernel
theorem dX0_init_1 : decode cX0_init 1 = .ok (.invokespecial 3, 3) := by decide +kernel
theorem dX0_init_4 : decode cX0_init 4 = .ok (.aload_n 0, 1) := by decide +kernel
theorem dX0_init_5 : decode cX0_init 5 = .ok (.iconst 0, 1) := by decide +kernel
theorem dX0_init_6 : decode cX0_init 6 = .ok (.iload_n 1, 1) := by decide +kernel
theorem dX0_init_7 : decode cX0_init 7 = .ok (.invokestatic 9, 3) := by decide +kernel
theorem dX0_init_10 : decode cX0_init 10 = .ok (.newarray .int, 2) := by decide +kernel
theorem dX0_init_12 : decode cX0_init 12 = .ok (.putfield 15, 3) := by decide +kernel
theorem dX0_init_15 : decode cX0_init 15 = .ok (.return_, 1) := by decide +kernel
theorem dX0_isFull_0 : decode cX0_isFull 0 = .ok (.aload_n 0, 1) := by decide +kernel
theorem dX0_isFull_1 : decode cX0_isFull 1 = .ok (.getfield 21, 3) := by decide +kernel
theorem dX0_isFull_4 : decode cX0_isFull 4 = .ok (.aload_n 0, 1) := by decide +kernel
theorem dX0_isFull_5 : decode cX0_isFull 5 = .ok (.getfield 15, 3) := by decide +kernel
theorem dX0_isFull_8 : decode cX0_isFull 8 = .ok (.arraylength, 1) := by decide +kernel
theorem dX0_isFull_9 : decode cX0_isFull 9 = .ok (.if_icmp .lt 7, 3) := by decide +kernel
theorem dX0_isFull_12 : decode cX0_isFull 12 = .ok (.iconst 1, 1) := by decide +kernel
theorem dX0_isFull_13 : decode cX0_isFull 13 = .ok (.goto 4, 3) := by decide +kernel
theorem dX0_isFull_16 : decode cX0_isFull 16 = .ok (.iconst 0, 1) := by decide +kernel
theorem dX0_isFull_17 : decode cX0_isFull 17 = .ok (.ireturn, 1) := by decide +kernel
theorem dX0_has_0 : decode cX0_has 0 = .ok (.iload_n 1, 1) := by decide +kernel
theorem dX0_has_1 : decode cX0_has 1 = .ok (.ifCond .lt 15, 3) := by decide +kernel
theorem dX0_has_4 : decode cX0_has 4 = .ok (.iload_n 1, 1) := by decide +kernel
theorem dX0_has_5 : decode cX0_has 5 = .ok (.aload_n 0, 1) := by decide +kernel
theorem dX0_has_6 : decode cX0_has 6 = .ok (.getfield 21, 3) := by decide +kernel
theorem dX0_has_9 : decode cX0_has 9 = .ok (.if_icmp .ge 7, 3) := by decide +kernel
theorem dX0_has_12 : decode cX0_has 12 = .ok (.iconst 1, 1) := by decide +kernel
theorem dX0_has_13 : decode cX0_has 13 = .ok (.goto 4, 3) := by decide +kernel
theorem dX0_has_16 : decode cX0_has 16 = .ok (.iconst 0, 1) := by decide +kernel
theorem dX0_has_17 : decode cX0_has 17 = .ok (.ireturn, 1) := by decide +kernel
theorem dX0_at_0 : decode cX0_at 0 = .ok (.aload_n 0, 1) := by decide +kernel
theorem dX0_at_1 : decode cX0_at 1 = .ok (.iload_n 1, 1) := by decide +kernel
theorem dX0_at_2 : decode cX0_at 2 = .ok (.invokevirtual 25, 3) := by decide +kernel
theorem dX0_at_5 : decode cX0_at 5 = .ok (.ifCond .eq 12, 3) := by decide +kernel
theorem dX0_at_8 : decode cX0_at 8 = .ok (.aload_n 0, 1) := by decide +kernel
theorem dX0_at_9 : decode cX0_at 9 = .ok (.getfield 15, 3) := by decide +kernel
theorem dX0_at_12 : decode cX0_at 12 = .ok (.iload_n 1, 1) := by decide +kernel
theorem dX0_at_13 : decode cX0_at 13 = .ok (.iaload, 1) := by decide +kernel
theorem dX0_at_14 : decode cX0_at 14 = .ok (.goto 4, 3) := by decide +kernel
theorem dX0_at_17 : decode cX0_at 17 = .ok (.iconst (-1), 1) := by decide +kernel
theorem dX0_at_18 : decode cX0_at 18 = .ok (.ireturn, 1) := by decide +kernel
theorem dX0_atOrLength_0 : decode cX0_atOrLength 0 = .ok (.iload_n 1, 1) := by decide +kernel
theorem dX0_atOrLength_1 : decode cX0_atOrLength 1 = .ok (.iconst (-1), 1) := by decide +kernel
theorem dX0_atOrLength_2 : decode cX0_atOrLength 2 = .ok (.if_icmp .ne 10, 3) := by decide +kernel
theorem dX0_atOrLength_5 : decode cX0_atOrLength 5 = .ok (.aload_n 0, 1) := by decide +kernel
theorem dX0_atOrLength_6 : decode cX0_atOrLength 6 = .ok (.getfield 21, 3) := by decide +kernel
theorem dX0_atOrLength_9 : decode cX0_atOrLength 9 = .ok (.goto 8, 3) := by decide +kernel
theorem dX0_atOrLength_12 : decode cX0_atOrLength 12 = .ok (.aload_n 0, 1) := by decide +kernel
theorem dX0_atOrLength_13 : decode cX0_atOrLength 13 = .ok (.iload_n 1, 1) := by decide +kernel
theorem dX0_atOrLength_14 : decode cX0_atOrLength 14 = .ok (.invokevirtual 29, 3) := by decide +kernel
theorem dX0_atOrLength_17 : decode cX0_atOrLength 17 = .ok (.ireturn, 1) := by decide +kernel
theorem dX0_put_0 : decode cX0_put 0 = .ok (.aload_n 0, 1) := by decide +kernel
theorem dX0_put_1 : decode cX0_put 1 = .ok (.iload_n 1, 1) := by decide +kernel
theorem dX0_put_2 : decode cX0_put 2 = .ok (.invokevirtual 25, 3) := by decide +kernel
theorem dX0_put_5 : decode cX0_put 5 = .ok (.ifCond .eq 10, 3) := by decide +kernel
theorem dX0_put_8 : decode cX0_put 8 = .ok (.aload_n 0, 1) := by decide +kernel
theorem dX0_put_9 : decode cX0_put 9 = .ok (.getfield 15, 3) := by decide +kernel
theorem dX0_put_12 : decode cX0_put 12 = .ok (.iload_n 1, 1) := by decide +kernel
theorem dX0_put_13 : decode cX0_put 13 = .ok (.iload_n 2, 1) := by decide +kernel
theorem dX0_put_14 : decode cX0_put 14 = .ok (.iastore, 1) := by decide +kernel
theorem dX0_put_15 : decode cX0_put 15 = .ok (.return_, 1) := by decide +kernel
theorem dX0_push_0 : decode cX0_push 0 = .ok (.aload_n 0, 1) := by decide +kernel
theorem dX0_push_1 : decode cX0_push 1 = .ok (.invokevirtual 33, 3) := by decide +kernel
theorem dX0_push_4 : decode cX0_push 4 = .ok (.ifCond .ne 23, 3) := by decide +kernel
theorem dX0_push_7 : decode cX0_push 7 = .ok (.aload_n 0, 1) := by decide +kernel
theorem dX0_push_8 : decode cX0_push 8 = .ok (.getfield 15, 3) := by decide +kernel
theorem dX0_push_11 : decode cX0_push 11 = .ok (.aload_n 0, 1) := by decide +kernel
theorem dX0_push_12 : decode cX0_push 12 = .ok (.getfield 21, 3) := by decide +kernel
theorem dX0_push_15 : decode cX0_push 15 = .ok (.iload_n 1, 1) := by decide +kernel
theorem dX0_push_16 : decode cX0_push 16 = .ok (.iastore, 1) := by decide +kernel
theorem dX0_push_17 : decode cX0_push 17 = .ok (.aload_n 0, 1) := by decide +kernel
theorem dX0_push_18 : decode cX0_push 18 = .ok (.dup, 1) := by decide +kernel
theorem dX0_push_19 : decode cX0_push 19 = .ok (.getfield 21, 3) := by decide +kernel
theorem dX0_push_22 : decode cX0_push 22 = .ok (.iconst 1, 1) := by decide +kernel
theorem dX0_push_23 : decode cX0_push 23 = .ok (.iadd, 1) := by decide +kernel
theorem dX0_push_24 : decode cX0_push 24 = .ok (.putfield 21, 3) := by decide +kernel
theorem dX0_push_27 : decode cX0_push 27 = .ok (.return_, 1) := by decide +kernel
theorem dX0_cut_0 : decode cX0_cut 0 = .ok (.aload_n 0, 1) := by decide +kernel
theorem dX0_cut_1 : decode cX0_cut 1 = .ok (.iconst 0, 1) := by decide +kernel
theorem dX0_cut_2 : decode cX0_cut 2 = .ok (.aload_n 0, 1) := by decide +kernel
theorem dX0_cut_3 : decode cX0_cut 3 = .ok (.getfield 21, 3) := by decide +kernel
theorem dX0_cut_6 : decode cX0_cut 6 = .ok (.iload_n 1, 1) := by decide +kernel
theorem dX0_cut_7 : decode cX0_cut 7 = .ok (.invokestatic 37, 3) := by decide +kernel
theorem dX0_cut_10 : decode cX0_cut 10 = .ok (.invokestatic 9, 3) := by decide +kernel
theorem dX0_cut_13 : decode cX0_cut 13 = .ok (.putfield 21, 3) := by decide +kernel
theorem dX0_cut_16 : decode cX0_cut 16 = .ok (.return_, 1) := by decide +kernel
theorem dX0_move_0 : decode cX0_move 0 = .ok (.iload_n 1, 1) := by decide +kernel
theorem dX0_move_1 : decode cX0_move 1 = .ok (.ifCond .lt 45, 3) := by decide +kernel
theorem dX0_move_4 : decode cX0_move 4 = .ok (.iload_n 2, 1) := by decide +kernel
theorem dX0_move_5 : decode cX0_move 5 = .ok (.ifCond .lt 41, 3) := by decide +kernel
theorem dX0_move_8 : decode cX0_move 8 = .ok (.iload_n 3, 1) := by decide +kernel
theorem dX0_move_9 : decode cX0_move 9 = .ok (.ifCond .lt 37, 3) := by decide +kernel
theorem dX0_move_12 : decode cX0_move 12 = .ok (.iload_n 1, 1) := by decide +kernel
theorem dX0_move_13 : decode cX0_move 13 = .ok (.iload_n 3, 1) := by decide +kernel
theorem dX0_move_14 : decode cX0_move 14 = .ok (.iadd, 1) := by decide +kernel
theorem dX0_move_15 : decode cX0_move 15 = .ok (.aload_n 0, 1) := by decide +kernel
theorem dX0_move_16 : decode cX0_move 16 = .ok (.getfield 21, 3) := by decide +kernel
theorem dX0_move_19 : decode cX0_move 19 = .ok (.if_icmp .gt 27, 3) := by decide +kernel
theorem dX0_move_22 : decode cX0_move 22 = .ok (.iload_n 2, 1) := by decide +kernel
theorem dX0_move_23 : decode cX0_move 23 = .ok (.iload_n 3, 1) := by decide +kernel
theorem dX0_move_24 : decode cX0_move 24 = .ok (.iadd, 1) := by decide +kernel
theorem dX0_move_25 : decode cX0_move 25 = .ok (.aload_n 0, 1) := by decide +kernel
theorem dX0_move_26 : decode cX0_move 26 = .ok (.getfield 21, 3) := by decide +kernel
theorem dX0_move_29 : decode cX0_move 29 = .ok (.if_icmp .gt 17, 3) := by decide +kernel
theorem dX0_move_32 : decode cX0_move 32 = .ok (.aload_n 0, 1) := by decide +kernel
theorem dX0_move_33 : decode cX0_move 33 = .ok (.getfield 15, 3) := by decide +kernel
theorem dX0_move_36 : decode cX0_move 36 = .ok (.iload_n 1, 1) := by decide +kernel
theorem dX0_move_37 : decode cX0_move 37 = .ok (.aload_n 0, 1) := by decide +kernel
theorem dX0_move_38 : decode cX0_move 38 = .ok (.getfield 15, 3) := by decide +kernel
theorem dX0_move_41 : decode cX0_move 41 = .ok (.iload_n 2, 1) := by decide +kernel
theorem dX0_move_42 : decode cX0_move 42 = .ok (.iload_n 3, 1) := by decide +kernel
theorem dX0_move_43 : decode cX0_move 43 = .ok (.invokestatic 40, 3) := by decide +kernel
theorem dX0_move_46 : decode cX0_move 46 = .ok (.return_, 1) := by decide +kernel
theorem dX0_take_0 : decode cX0_take 0 = .ok (.aload_n 0, 1) := by decide +kernel
theorem dX0_take_1 : decode cX0_take 1 = .ok (.aload_n 1, 1) := by decide +kernel
theorem dX0_take_2 : decode cX0_take 2 = .ok (.getfield 21, 3) := by decide +kernel
theorem dX0_take_5 : decode cX0_take 5 = .ok (.aload_n 0, 1) := by decide +kernel
theorem dX0_take_6 : decode cX0_take 6 = .ok (.getfield 15, 3) := by decide +kernel
theorem dX0_take_9 : decode cX0_take 9 = .ok (.arraylength, 1) := by decide +kernel
theorem dX0_take_10 : decode cX0_take 10 = .ok (.invokestatic 37, 3) := by decide +kernel
theorem dX0_take_13 : decode cX0_take 13 = .ok (.putfield 21, 3) := by decide +kernel
theorem dX0_take_16 : decode cX0_take 16 = .ok (.aload_n 1, 1) := by decide +kernel
theorem dX0_take_17 : decode cX0_take 17 = .ok (.getfield 15, 3) := by decide +kernel
theorem dX0_take_20 : decode cX0_take 20 = .ok (.iconst 0, 1) := by decide +kernel
theorem dX0_take_21 : decode cX0_take 21 = .ok (.aload_n 0, 1) := by decide +kernel
theorem dX0_take_22 : decode cX0_take 22 = .ok (.getfield 15, 3) := by decide +kernel
theorem dX0_take_25 : decode cX0_take 25 = .ok (.iconst 0, 1) := by decide +kernel
theorem dX0_take_26 : decode cX0_take 26 = .ok (.aload_n 0, 1) := by decide +kernel
theorem dX0_take_27 : decode cX0_take 27 = .ok (.getfield 21, 3) := by decide +kernel
theorem dX0_take_30 : decode cX0_take 30 = .ok (.invokestatic 40, 3) := by decide +kernel
theorem dX0_take_33 : decode cX0_take 33 = .ok (.return_, 1) := by decide +kernel
theorem dX0_common_0 : decode cX0_common 0 = .ok (.aload_n 0, 1) := by decide +kernel
theorem dX0_common_1 : decode cX0_common 1 = .ok (.getfield 21, 3) := by decide +kernel
theorem dX0_common_4 : decode cX0_common 4 = .ok (.iload_n 1, 1) := by decide +kernel
theorem dX0_common_5 : decode cX0_common 5 = .ok (.isub, 1) := by decide +kernel
theorem dX0_common_6 : decode cX0_common 6 = .ok (.aload_n 2, 1) := by decide +kernel
theorem dX0_common_7 : decode cX0_common 7 = .ok (.getfield 21, 3) := by decide +kernel
theorem dX0_common_10 : decode cX0_common 10 = .ok (.iload_n 3, 1) := by decide +kernel
theorem dX0_common_11 : decode cX0_common 11 = .ok (.isub, 1) := by decide +kernel
theorem dX0_common_12 : decode cX0_common 12 = .ok (.invokestatic 37, 3) := by decide +kernel
theorem dX0_common_15 : decode cX0_common 15 = .ok (.istore 4, 2) := by decide +kernel
theorem dX0_common_17 : decode cX0_common 17 = .ok (.iconst 0, 1) := by decide +kernel
theorem dX0_common_18 : decode cX0_common 18 = .ok (.istore 5, 2) := by decide +kernel
theorem dX0_common_20 : decode cX0_common 20 = .ok (.iload 5, 2) := by decide +kernel
theorem dX0_common_22 : decode cX0_common 22 = .ok (.iload 4, 2) := by decide +kernel
theorem dX0_common_24 : decode cX0_common 24 = .ok (.if_icmp .ge 28, 3) := by decide +kernel
theorem dX0_common_27 : decode cX0_common 27 = .ok (.aload_n 0, 1) := by decide +kernel
theorem dX0_common_28 : decode cX0_common 28 = .ok (.iload_n 1, 1) := by decide +kernel
theorem dX0_common_29 : decode cX0_common 29 = .ok (.iload 5, 2) := by decide +kernel
theorem dX0_common_31 : decode cX0_common 31 = .ok (.iadd, 1) := by decide +kernel
theorem dX0_common_32 : decode cX0_common 32 = .ok (.invokevirtual 29, 3) := by decide +kernel
theorem dX0_common_35 : decode cX0_common 35 = .ok (.aload_n 2, 1) := by decide +kernel
theorem dX0_common_36 : decode cX0_common 36 = .ok (.iload_n 3, 1) := by decide +kernel
theorem dX0_common_37 : decode cX0_common 37 = .ok (.iload 5, 2) := by decide +kernel
theorem dX0_common_39 : decode cX0_common 39 = .ok (.iadd, 1) := by decide +kernel
theorem dX0_common_40 : decode cX0_common 40 = .ok (.invokevirtual 29, 3) := by decide +kernel
theorem dX0_common_43 : decode cX0_common 43 = .ok (.if_icmp .ne 9, 3) := by decide +kernel
theorem dX0_common_46 : decode cX0_common 46 = .ok (.iinc 5 1, 3) := by decide +kernel
theorem dX0_common_49 : decode cX0_common 49 = .ok (.goto (-29), 3) := by decide +kernel
theorem dX0_common_52 : decode cX0_common 52 = .ok (.iload 5, 2) := by decide +kernel
theorem dX0_common_54 : decode cX0_common 54 = .ok (.ireturn, 1) := by decide +kernel
theorem dX0_sum_0 : decode cX0_sum 0 = .ok (.iconst 0, 1) := by decide +kernel
theorem dX0_sum_1 : decode cX0_sum 1 = .ok (.istore_n 1, 1) := by decide +kernel
theorem dX0_sum_2 : decode cX0_sum 2 = .ok (.iconst 0, 1) := by decide +kernel
theorem dX0_sum_3 : decode cX0_sum 3 = .ok (.istore_n 2, 1) := by decide +kernel
theorem dX0_sum_4 : decode cX0_sum 4 = .ok (.iload_n 2, 1) := by decide +kernel
theorem dX0_sum_5 : decode cX0_sum 5 = .ok (.aload_n 0, 1) := by decide +kernel
theorem dX0_sum_6 : decode cX0_sum 6 = .ok (.getfield 21, 3) := by decide +kernel
theorem dX0_sum_9 : decode cX0_sum 9 = .ok (.if_icmp .ge 17, 3) := by decide +kernel
theorem dX0_sum_12 : decode cX0_sum 12 = .ok (.iload_n 1, 1) := by decide +kernel
theorem dX0_sum_13 : decode cX0_sum 13 = .ok (.aload_n 0, 1) := by decide +kernel
theorem dX0_sum_14 : decode cX0_sum 14 = .ok (.iload_n 2, 1) := by decide +kernel
theorem dX0_sum_15 : decode cX0_sum 15 = .ok (.invokevirtual 29, 3) := by decide +kernel
theorem dX0_sum_18 : decode cX0_sum 18 = .ok (.iadd, 1) := by decide +kernel
theorem dX0_sum_19 : decode cX0_sum 19 = .ok (.istore_n 1, 1) := by decide +kernel
theorem dX0_sum_20 : decode cX0_sum 20 = .ok (.iinc 2 1, 3) := by decide +kernel
theorem dX0_sum_23 : decode cX0_sum 23 = .ok (.goto (-19), 3) := by decide +kernel
theorem dX0_sum_26 : decode cX0_sum 26 = .ok (.iload_n 1, 1) := by decide +kernel
theorem dX0_sum_27 : decode cX0_sum 27 = .ok (.ireturn, 1) := by decide +kernel
theorem dX0_mixInto_0 : decode cX0_mixInto 0 = .ok (.lload_n 1, 1) := by decide +kernel
theorem dX0_mixInto_1 : decode cX0_mixInto 1 = .ok (.aload_n 0, 1) := by decide +kernel
theorem dX0_mixInto_2 : decode cX0_mixInto 2 = .ok (.getfield 21, 3) := by decide +kernel
theorem dX0_mixInto_5 : decode cX0_mixInto 5 = .ok (.i2l, 1) := by decide +kernel
theorem dX0_mixInto_6 : decode cX0_mixInto 6 = .ok (.invokestatic 46, 3) := by decide +kernel
theorem dX0_mixInto_9 : decode cX0_mixInto 9 = .ok (.lstore_n 3, 1) := by decide +kernel
theorem dX0_mixInto_10 : decode cX0_mixInto 10 = .ok (.iconst 0, 1) := by decide +kernel
theorem dX0_mixInto_11 : decode cX0_mixInto 11 = .ok (.istore 5, 2) := by decide +kernel
theorem dX0_mixInto_13 : decode cX0_mixInto 13 = .ok (.iload 5, 2) := by decide +kernel
theorem dX0_mixInto_15 : decode cX0_mixInto 15 = .ok (.aload_n 0, 1) := by decide +kernel
theorem dX0_mixInto_16 : decode cX0_mixInto 16 = .ok (.getfield 21, 3) := by decide +kernel
theorem dX0_mixInto_19 : decode cX0_mixInto 19 = .ok (.if_icmp .ge 21, 3) := by decide +kernel
theorem dX0_mixInto_22 : decode cX0_mixInto 22 = .ok (.lload_n 3, 1) := by decide +kernel
theorem dX0_mixInto_23 : decode cX0_mixInto 23 = .ok (.aload_n 0, 1) := by decide +kernel
theorem dX0_mixInto_24 : decode cX0_mixInto 24 = .ok (.iload 5, 2) := by decide +kernel
theorem dX0_mixInto_26 : decode cX0_mixInto 26 = .ok (.invokevirtual 29, 3) := by decide +kernel
theorem dX0_mixInto_29 : decode cX0_mixInto 29 = .ok (.i2l, 1) := by decide +kernel
theorem dX0_mixInto_30 : decode cX0_mixInto 30 = .ok (.invokestatic 46, 3) := by decide +kernel
theorem dX0_mixInto_33 : decode cX0_mixInto 33 = .ok (.lstore_n 3, 1) := by decide +kernel
theorem dX0_mixInto_34 : decode cX0_mixInto 34 = .ok (.iinc 5 1, 3) := by decide +kernel
theorem dX0_mixInto_37 : decode cX0_mixInto 37 = .ok (.goto (-24), 3) := by decide +kernel
theorem dX0_mixInto_40 : decode cX0_mixInto 40 = .ok (.lload_n 3, 1) := by decide +kernel
theorem dX0_mixInto_41 : decode cX0_mixInto 41 = .ok (.lreturn, 1) := by decide +kernel
theorem dX1_init_0 : decode cX1_init 0 = .ok (.aload_n 0, 1) := by decide +kernel
theorem dX1_init_1 : decode cX1_init 1 = .ok (.invokespecial 3, 3) := by decide +kernel
theorem dX1_init_4 : decode cX1_init 4 = .ok (.aload_n 0, 1) := by decide +kernel
theorem dX1_init_5 : decode cX1_init 5 = .ok (.new 9, 3) := by decide +kernel
theorem dX1_init_8 : decode cX1_init 8 = .ok (.dup, 1) := by decide +kernel
theorem dX1_init_9 : decode cX1_init 9 = .ok (.invokespecial 11, 3) := by decide +kernel
theorem dX1_init_12 : decode cX1_init 12 = .ok (.putfield 12, 3) := by decide +kernel
theorem dX1_init_15 : decode cX1_init 15 = .ok (.return_, 1) := by decide +kernel
theorem dX1_read_0 : decode cX1_read 0 = .ok (.aload_n 0, 1) := by decide +kernel
theorem dX1_read_1 : decode cX1_read 1 = .ok (.iconst 0, 1) := by decide +kernel
theorem dX1_read_2 : decode cX1_read 2 = .ok (.putfield 18, 3) := by decide +kernel
theorem dX1_read_5 : decode cX1_read 5 = .ok (.aload_n 0, 1) := by decide +kernel
theorem dX1_read_6 : decode cX1_read 6 = .ok (.iconst 0, 1) := by decide +kernel
theorem dX1_read_7 : decode cX1_read 7 = .ok (.putfield 22, 3) := by decide +kernel
theorem dX1_read_10 : decode cX1_read 10 = .ok (.aload_n 0, 1) := by decide +kernel
theorem dX1_read_11 : decode cX1_read 11 = .ok (.iconst (-1), 1) := by decide +kernel
theorem dX1_read_12 : decode cX1_read 12 = .ok (.putfield 25, 3) := by decide +kernel
theorem dX1_read_15 : decode cX1_read 15 = .ok (.aload_n 0, 1) := by decide +kernel
theorem dX1_read_16 : decode cX1_read 16 = .ok (.aload_n 1, 1) := by decide +kernel
theorem dX1_read_17 : decode cX1_read 17 = .ok (.bipush 73, 2) := by decide +kernel
theorem dX1_read_19 : decode cX1_read 19 = .ok (.bipush 73, 2) := by decide +kernel
theorem dX1_read_21 : decode cX1_read 21 = .ok (.invokevirtual 28, 3) := by decide +kernel
theorem dX1_read_24 : decode cX1_read 24 = .ok (.pop, 1) := by decide +kernel
theorem dX1_read_25 : decode cX1_read 25 = .ok (.aload_n 0, 1) := by decide +kernel
theorem dX1_read_26 : decode cX1_read 26 = .ok (.aload_n 1, 1) := by decide +kernel
theorem dX1_read_27 : decode cX1_read 27 = .ok (.iconst 0, 1) := by decide +kernel
theorem dX1_read_28 : decode cX1_read 28 = .ok (.bipush 64, 2) := by decide +kernel
theorem dX1_read_30 : decode cX1_read 30 = .ok (.invokevirtual 28, 3) := by decide +kernel
theorem dX1_read_33 : decode cX1_read 33 = .ok (.istore_n 2, 1) := by decide +kernel
theorem dX1_read_34 : decode cX1_read 34 = .ok (.aload_n 0, 1) := by decide +kernel
theorem dX1_read_35 : decode cX1_read 35 = .ok (.aload_n 1, 1) := by decide +kernel
theorem dX1_read_36 : decode cX1_read 36 = .ok (.iconst 0, 1) := by decide +kernel
theorem dX1_read_37 : decode cX1_read 37 = .ok (.bipush 64, 2) := by decide +kernel
theorem dX1_read_39 : decode cX1_read 39 = .ok (.invokevirtual 28, 3) := by decide +kernel
theorem dX1_read_42 : decode cX1_read 42 = .ok (.istore_n 3, 1) := by decide +kernel
theorem dX1_read_43 : decode cX1_read 43 = .ok (.aload_n 0, 1) := by decide +kernel
theorem dX1_read_44 : decode cX1_read 44 = .ok (.aload_n 1, 1) := by decide +kernel
theorem dX1_read_45 : decode cX1_read 45 = .ok (.iconst 0, 1) := by decide +kernel
theorem dX1_read_46 : decode cX1_read 46 = .ok (.bipush 30, 2) := by decide +kernel
theorem dX1_read_48 : decode cX1_read 48 = .ok (.invokevirtual 28, 3) := by decide +kernel
theorem dX1_read_51 : decode cX1_read 51 = .ok (.istore 4, 2) := by decide +kernel
theorem dX1_read_53 : decode cX1_read 53 = .ok (.aload_n 0, 1) := by decide +kernel
theorem dX1_read_54 : decode cX1_read 54 = .ok (.getfield 12, 3) := by decide +kernel
theorem dX1_read_57 : decode cX1_read 57 = .ok (.iload_n 2, 1) := by decide +kernel
theorem dX1_read_58 : decode cX1_read 58 = .ok (.iload_n 3, 1) := by decide +kernel
theorem dX1_read_59 : decode cX1_read 59 = .ok (.invokevirtual 32, 3) := by decide +kernel
theorem dX1_read_62 : decode cX1_read 62 = .ok (.iconst 0, 1) := by decide +kernel
theorem dX1_read_63 : decode cX1_read 63 = .ok (.istore 5, 2) := by decide +kernel
theorem dX1_read_65 : decode cX1_read 65 = .ok (.iload 5, 2) := by decide +kernel
theorem dX1_read_67 : decode cX1_read 67 = .ok (.iload 4, 2) := by decide +kernel
theorem dX1_read_69 : decode cX1_read 69 = .ok (.if_icmp .ge 22, 3) := by decide +kernel
theorem dX1_read_72 : decode cX1_read 72 = .ok (.aload_n 0, 1) := by decide +kernel
theorem dX1_read_73 : decode cX1_read 73 = .ok (.getfield 25, 3) := by decide +kernel
theorem dX1_read_76 : decode cX1_read 76 = .ok (.iconst (-1), 1) := by decide +kernel
theorem dX1_read_77 : decode cX1_read 77 = .ok (.if_icmp .ne 14, 3) := by decide +kernel
theorem dX1_read_80 : decode cX1_read 80 = .ok (.aload_n 0, 1) := by decide +kernel
theorem dX1_read_81 : decode cX1_read 81 = .ok (.aload_n 1, 1) := by decide +kernel
theorem dX1_read_82 : decode cX1_read 82 = .ok (.invokevirtual 36, 3) := by decide +kernel
theorem dX1_read_85 : decode cX1_read 85 = .ok (.iinc 5 1, 3) := by decide +kernel
theorem dX1_read_88 : decode cX1_read 88 = .ok (.goto (-23), 3) := by decide +kernel
theorem dX1_read_91 : decode cX1_read 91 = .ok (.aload_n 0, 1) := by decide +kernel
theorem dX1_read_92 : decode cX1_read 92 = .ok (.getfield 22, 3) := by decide +kernel
theorem dX1_read_95 : decode cX1_read 95 = .ok (.sipush 251, 3) := by decide +kernel
theorem dX1_read_98 : decode cX1_read 98 = .ok (.irem, 1) := by decide +kernel
theorem dX1_read_99 : decode cX1_read 99 = .ok (.istore 5, 2) := by decide +kernel
theorem dX1_read_101 : decode cX1_read 101 = .ok (.aload_n 0, 1) := by decide +kernel
theorem dX1_read_102 : decode cX1_read 102 = .ok (.aload_n 1, 1) := by decide +kernel
theorem dX1_read_103 : decode cX1_read 103 = .ok (.iload 5, 2) := by decide +kernel
theorem dX1_read_105 : decode cX1_read 105 = .ok (.iload 5, 2) := by decide +kernel
theorem dX1_read_107 : decode cX1_read 107 = .ok (.invokevirtual 28, 3) := by decide +kernel
theorem dX1_read_110 : decode cX1_read 110 = .ok (.pop, 1) := by decide +kernel
theorem dX1_read_111 : decode cX1_read 111 = .ok (.aload_n 0, 1) := by decide +kernel
theorem dX1_read_112 : decode cX1_read 112 = .ok (.getfield 25, 3) := by decide +kernel
theorem dX1_read_115 : decode cX1_read 115 = .ok (.iconst (-1), 1) := by decide +kernel
theorem dX1_read_116 : decode cX1_read 116 = .ok (.if_icmp .ne 22, 3) := by decide +kernel
theorem dX1_read_119 : decode cX1_read 119 = .ok (.aload_n 1, 1) := by decide +kernel
theorem dX1_read_120 : decode cX1_read 120 = .ok (.aload_n 0, 1) := by decide +kernel
theorem dX1_read_121 : decode cX1_read 121 = .ok (.getfield 18, 3) := by decide +kernel
theorem dX1_read_124 : decode cX1_read 124 = .ok (.invokevirtual 40, 3) := by decide +kernel
theorem dX1_read_127 : decode cX1_read 127 = .ok (.ifCond .eq 11, 3) := by decide +kernel
theorem dX1_read_130 : decode cX1_read 130 = .ok (.aload_n 0, 1) := by decide +kernel
theorem dX1_read_131 : decode cX1_read 131 = .ok (.aload_n 0, 1) := by decide +kernel
theorem dX1_read_132 : decode cX1_read 132 = .ok (.getfield 18, 3) := by decide +kernel
theorem dX1_read_135 : decode cX1_read 135 = .ok (.putfield 25, 3) := by decide +kernel
theorem dX1_read_138 : decode cX1_read 138 = .ok (.aload_n 0, 1) := by decide +kernel
theorem dX1_read_139 : decode cX1_read 139 = .ok (.getfield 25, 3) := by decide +kernel
theorem dX1_read_142 : decode cX1_read 142 = .ok (.ireturn, 1) := by decide +kernel
theorem dX1_next_0 : decode cX1_next 0 = .ok (.aload_n 0, 1) := by decide +kernel
theorem dX1_next_1 : decode cX1_next 1 = .ok (.getfield 25, 3) := by decide +kernel
theorem dX1_next_4 : decode cX1_next 4 = .ok (.iconst (-1), 1) := by decide +kernel
theorem dX1_next_5 : decode cX1_next 5 = .ok (.if_icmp .eq 5, 3) := by decide +kernel
theorem dX1_next_8 : decode cX1_next 8 = .ok (.iload_n 2, 1) := by decide +kernel
theorem dX1_next_9 : decode cX1_next 9 = .ok (.ireturn, 1) := by decide +kernel
theorem dX1_next_10 : decode cX1_next 10 = .ok (.aload_n 1, 1) := by decide +kernel
theorem dX1_next_11 : decode cX1_next 11 = .ok (.aload_n 0, 1) := by decide +kernel
theorem dX1_next_12 : decode cX1_next 12 = .ok (.getfield 18, 3) := by decide +kernel
theorem dX1_next_15 : decode cX1_next 15 = .ok (.invokevirtual 40, 3) := by decide +kernel
theorem dX1_next_18 : decode cX1_next 18 = .ok (.ifCond .ne 13, 3) := by decide +kernel
theorem dX1_next_21 : decode cX1_next 21 = .ok (.aload_n 0, 1) := by decide +kernel
theorem dX1_next_22 : decode cX1_next 22 = .ok (.aload_n 1, 1) := by decide +kernel
theorem dX1_next_23 : decode cX1_next 23 = .ok (.getfield 46, 3) := by decide +kernel
theorem dX1_next_26 : decode cX1_next 26 = .ok (.putfield 25, 3) := by decide +kernel
theorem dX1_next_29 : decode cX1_next 29 = .ok (.iload_n 2, 1) := by decide +kernel
theorem dX1_next_30 : decode cX1_next 30 = .ok (.ireturn, 1) := by decide +kernel
theorem dX1_next_31 : decode cX1_next 31 = .ok (.aload_n 1, 1) := by decide +kernel
theorem dX1_next_32 : decode cX1_next 32 = .ok (.aload_n 0, 1) := by decide +kernel
theorem dX1_next_33 : decode cX1_next 33 = .ok (.getfield 18, 3) := by decide +kernel
theorem dX1_next_36 : decode cX1_next 36 = .ok (.invokevirtual 49, 3) := by decide +kernel
theorem dX1_next_39 : decode cX1_next 39 = .ok (.istore 4, 2) := by decide +kernel
theorem dX1_next_41 : decode cX1_next 41 = .ok (.iload 4, 2) := by decide +kernel
theorem dX1_next_43 : decode cX1_next 43 = .ok (.iload_n 2, 1) := by decide +kernel
theorem dX1_next_44 : decode cX1_next 44 = .ok (.if_icmp .lt 9, 3) := by decide +kernel
theorem dX1_next_47 : decode cX1_next 47 = .ok (.iload 4, 2) := by decide +kernel
theorem dX1_next_49 : decode cX1_next 49 = .ok (.iload_n 3, 1) := by decide +kernel
theorem dX1_next_50 : decode cX1_next 50 = .ok (.if_icmp .le 13, 3) := by decide +kernel
theorem dX1_next_53 : decode cX1_next 53 = .ok (.aload_n 0, 1) := by decide +kernel
theorem dX1_next_54 : decode cX1_next 54 = .ok (.aload_n 0, 1) := by decide +kernel
theorem dX1_next_55 : decode cX1_next 55 = .ok (.getfield 18, 3) := by decide +kernel
theorem dX1_next_58 : decode cX1_next 58 = .ok (.putfield 25, 3) := by decide +kernel
theorem dX1_next_61 : decode cX1_next 61 = .ok (.iload_n 2, 1) := by decide +kernel
theorem dX1_next_62 : decode cX1_next 62 = .ok (.ireturn, 1) := by decide +kernel
theorem dX1_next_63 : decode cX1_next 63 = .ok (.aload_n 0, 1) := by decide +kernel
theorem dX1_next_64 : decode cX1_next 64 = .ok (.dup, 1) := by decide +kernel
theorem dX1_next_65 : decode cX1_next 65 = .ok (.getfield 22, 3) := by decide +kernel
theorem dX1_next_68 : decode cX1_next 68 = .ok (.iload 4, 2) := by decide +kernel
theorem dX1_next_70 : decode cX1_next 70 = .ok (.iadd, 1) := by decide +kernel
theorem dX1_next_71 : decode cX1_next 71 = .ok (.putfield 22, 3) := by decide +kernel
theorem dX1_next_74 : decode cX1_next 74 = .ok (.aload_n 0, 1) := by decide +kernel
theorem dX1_next_75 : decode cX1_next 75 = .ok (.dup, 1) := by decide +kernel
theorem dX1_next_76 : decode cX1_next 76 = .ok (.getfield 18, 3) := by decide +kernel
theorem dX1_next_79 : decode cX1_next 79 = .ok (.iconst 1, 1) := by decide +kernel
theorem dX1_next_80 : decode cX1_next 80 = .ok (.iadd, 1) := by decide +kernel
theorem dX1_next_81 : decode cX1_next 81 = .ok (.putfield 18, 3) := by decide +kernel
theorem dX1_next_84 : decode cX1_next 84 = .ok (.iload 4, 2) := by decide +kernel
theorem dX1_next_86 : decode cX1_next 86 = .ok (.ireturn, 1) := by decide +kernel
theorem dX1_readCommand_0 : decode cX1_readCommand 0 = .ok (.aload_n 0, 1) := by decide +kernel
theorem dX1_readCommand_1 : decode cX1_readCommand 1 = .ok (.aload_n 1, 1) := by decide +kernel
theorem dX1_readCommand_2 : decode cX1_readCommand 2 = .ok (.aload_n 0, 1) := by decide +kernel
theorem dX1_readCommand_3 : decode cX1_readCommand 3 = .ok (.getfield 12, 3) := by decide +kernel
theorem dX1_readCommand_6 : decode cX1_readCommand 6 = .ok (.invokevirtual 53, 3) := by decide +kernel
theorem dX1_readCommand_9 : decode cX1_readCommand 9 = .ok (.ifCond .eq 7, 3) := by decide +kernel
theorem dX1_readCommand_12 : decode cX1_readCommand 12 = .ok (.iconst 1, 1) := by decide +kernel
theorem dX1_readCommand_13 : decode cX1_readCommand 13 = .ok (.goto 4, 3) := by decide +kernel
theorem dX1_readCommand_16 : decode cX1_readCommand 16 = .ok (.iconst 2, 1) := by decide +kernel
theorem dX1_readCommand_17 : decode cX1_readCommand 17 = .ok (.iconst 2, 1) := by decide +kernel
theorem dX1_readCommand_18 : decode cX1_readCommand 18 = .ok (.invokevirtual 28, 3) := by decide +kernel
theorem dX1_readCommand_21 : decode cX1_readCommand 21 = .ok (.istore_n 2, 1) := by decide +kernel
theorem dX1_readCommand_22 : decode cX1_readCommand 22 = .ok (.iload_n 2, 1) := by decide +kernel
theorem dX1_readCommand_23 : decode cX1_readCommand 23 = .ok (.iconst 1, 1) := by decide +kernel
theorem dX1_readCommand_24 : decode cX1_readCommand 24 = .ok (.if_icmp .ne 14, 3) := by decide +kernel
theorem dX1_readCommand_27 : decode cX1_readCommand 27 = .ok (.aload_n 0, 1) := by decide +kernel
theorem dX1_readCommand_28 : decode cX1_readCommand 28 = .ok (.aload_n 1, 1) := by decide +kernel
theorem dX1_readCommand_29 : decode cX1_readCommand 29 = .ok (.iconst 0, 1) := by decide +kernel
theorem dX1_readCommand_30 : decode cX1_readCommand 30 = .ok (.bipush 64, 2) := by decide +kernel
theorem dX1_readCommand_32 : decode cX1_readCommand 32 = .ok (.invokevirtual 28, 3) := by decide +kernel
theorem dX1_readCommand_35 : decode cX1_readCommand 35 = .ok (.goto 4, 3) := by decide +kernel
theorem dX1_readCommand_38 : decode cX1_readCommand 38 = .ok (.iconst (-1), 1) := by decide +kernel
theorem dX1_readCommand_39 : decode cX1_readCommand 39 = .ok (.istore_n 3, 1) := by decide +kernel
theorem dX1_readCommand_40 : decode cX1_readCommand 40 = .ok (.aload_n 0, 1) := by decide +kernel
theorem dX1_readCommand_41 : decode cX1_readCommand 41 = .ok (.aload_n 1, 1) := by decide +kernel
theorem dX1_readCommand_42 : decode cX1_readCommand 42 = .ok (.iconst 0, 1) := by decide +kernel
theorem dX1_readCommand_43 : decode cX1_readCommand 43 = .ok (.bipush 64, 2) := by decide +kernel
theorem dX1_readCommand_45 : decode cX1_readCommand 45 = .ok (.invokevirtual 28, 3) := by decide +kernel
theorem dX1_readCommand_48 : decode cX1_readCommand 48 = .ok (.istore 4, 2) := by decide +kernel
theorem dX1_readCommand_50 : decode cX1_readCommand 50 = .ok (.aload_n 0, 1) := by decide +kernel
theorem dX1_readCommand_51 : decode cX1_readCommand 51 = .ok (.aload_n 1, 1) := by decide +kernel
theorem dX1_readCommand_52 : decode cX1_readCommand 52 = .ok (.iconst 1, 1) := by decide +kernel
theorem dX1_readCommand_53 : decode cX1_readCommand 53 = .ok (.bipush 64, 2) := by decide +kernel
theorem dX1_readCommand_55 : decode cX1_readCommand 55 = .ok (.invokevirtual 28, 3) := by decide +kernel
theorem dX1_readCommand_58 : decode cX1_readCommand 58 = .ok (.istore 5, 2) := by decide +kernel
theorem dX1_readCommand_60 : decode cX1_readCommand 60 = .ok (.aload_n 0, 1) := by decide +kernel
theorem dX1_readCommand_61 : decode cX1_readCommand 61 = .ok (.getfield 25, 3) := by decide +kernel
theorem dX1_readCommand_64 : decode cX1_readCommand 64 = .ok (.iconst (-1), 1) := by decide +kernel
theorem dX1_readCommand_65 : decode cX1_readCommand 65 = .ok (.if_icmp .ne 17, 3) := by decide +kernel
theorem dX1_readCommand_68 : decode cX1_readCommand 68 = .ok (.aload_n 0, 1) := by decide +kernel
theorem dX1_readCommand_69 : decode cX1_readCommand 69 = .ok (.aload_n 0, 1) := by decide +kernel
theorem dX1_readCommand_70 : decode cX1_readCommand 70 = .ok (.iload_n 2, 1) := by decide +kernel
theorem dX1_readCommand_71 : decode cX1_readCommand 71 = .ok (.iload_n 3, 1) := by decide +kernel
theorem dX1_readCommand_72 : decode cX1_readCommand 72 = .ok (.iload 4, 2) := by decide +kernel
theorem dX1_readCommand_74 : decode cX1_readCommand 74 = .ok (.iload 5, 2) := by decide +kernel
theorem dX1_readCommand_76 : decode cX1_readCommand 76 = .ok (.invokevirtual 57, 3) := by decide +kernel
theorem dX1_readCommand_79 : decode cX1_readCommand 79 = .ok (.putfield 25, 3) := by decide +kernel
theorem dX1_readCommand_82 : decode cX1_readCommand 82 = .ok (.aload_n 0, 1) := by decide +kernel
theorem dX1_readCommand_83 : decode cX1_readCommand 83 = .ok (.getfield 25, 3) := by decide +kernel
theorem dX1_readCommand_86 : decode cX1_readCommand 86 = .ok (.iconst (-1), 1) := by decide +kernel
theorem dX1_readCommand_87 : decode cX1_readCommand 87 = .ok (.if_icmp .eq 4, 3) := by decide +kernel
theorem dX1_readCommand_90 : decode cX1_readCommand 90 = .ok (.return_, 1) := by decide +kernel
theorem dX1_readCommand_91 : decode cX1_readCommand 91 = .ok (.aload_n 0, 1) := by decide +kernel
theorem dX1_readCommand_92 : decode cX1_readCommand 92 = .ok (.getfield 12, 3) := by decide +kernel
theorem dX1_readCommand_95 : decode cX1_readCommand 95 = .ok (.iload_n 2, 1) := by decide +kernel
theorem dX1_readCommand_96 : decode cX1_readCommand 96 = .ok (.iload_n 3, 1) := by decide +kernel
theorem dX1_readCommand_97 : decode cX1_readCommand 97 = .ok (.iload 4, 2) := by decide +kernel
theorem dX1_readCommand_99 : decode cX1_readCommand 99 = .ok (.iload 5, 2) := by decide +kernel
theorem dX1_readCommand_101 : decode cX1_readCommand 101 = .ok (.invokevirtual 61, 3) := by decide +kernel
theorem dX1_readCommand_104 : decode cX1_readCommand 104 = .ok (.iload_n 2, 1) := by decide +kernel
theorem dX1_readCommand_105 : decode cX1_readCommand 105 = .ok (.iconst 2, 1) := by decide +kernel
theorem dX1_readCommand_106 : decode cX1_readCommand 106 = .ok (.if_icmp .ne 40, 3) := by decide +kernel
theorem dX1_readCommand_109 : decode cX1_readCommand 109 = .ok (.iconst 0, 1) := by decide +kernel
theorem dX1_readCommand_110 : decode cX1_readCommand 110 = .ok (.istore 6, 2) := by decide +kernel
theorem dX1_readCommand_112 : decode cX1_readCommand 112 = .ok (.iload 6, 2) := by decide +kernel
theorem dX1_readCommand_114 : decode cX1_readCommand 114 = .ok (.iload 5, 2) := by decide +kernel
theorem dX1_readCommand_116 : decode cX1_readCommand 116 = .ok (.if_icmp .ge 30, 3) := by decide +kernel
theorem dX1_readCommand_119 : decode cX1_readCommand 119 = .ok (.aload_n 0, 1) := by decide +kernel
theorem dX1_readCommand_120 : decode cX1_readCommand 120 = .ok (.getfield 12, 3) := by decide +kernel
theorem dX1_readCommand_123 : decode cX1_readCommand 123 = .ok (.iload 4, 2) := by decide +kernel
theorem dX1_readCommand_125 : decode cX1_readCommand 125 = .ok (.iload 6, 2) := by decide +kernel
theorem dX1_readCommand_127 : decode cX1_readCommand 127 = .ok (.iadd, 1) := by decide +kernel
theorem dX1_readCommand_128 : decode cX1_readCommand 128 = .ok (.aload_n 0, 1) := by decide +kernel
theorem dX1_readCommand_129 : decode cX1_readCommand 129 = .ok (.aload_n 1, 1) := by decide +kernel
theorem dX1_readCommand_130 : decode cX1_readCommand 130 = .ok (.iconst 0, 1) := by decide +kernel
theorem dX1_readCommand_131 : decode cX1_readCommand 131 = .ok (.sipush 255, 3) := by decide +kernel
theorem dX1_readCommand_134 : decode cX1_readCommand 134 = .ok (.invokevirtual 28, 3) := by decide +kernel
theorem dX1_readCommand_137 : decode cX1_readCommand 137 = .ok (.invokevirtual 65, 3) := by decide +kernel
theorem dX1_readCommand_140 : decode cX1_readCommand 140 = .ok (.iinc 6 1, 3) := by decide +kernel
theorem dX1_readCommand_143 : decode cX1_readCommand 143 = .ok (.goto (-31), 3) := by decide +kernel
theorem dX1_readCommand_146 : decode cX1_readCommand 146 = .ok (.return_, 1) := by decide +kernel
theorem dX1_rangeFault_0 : decode cX1_rangeFault 0 = .ok (.aload_n 0, 1) := by decide +kernel
theorem dX1_rangeFault_1 : decode cX1_rangeFault 1 = .ok (.getfield 18, 3) := by decide +kernel
theorem dX1_rangeFault_4 : decode cX1_rangeFault 4 = .ok (.iconst 1, 1) := by decide +kernel
theorem dX1_rangeFault_5 : decode cX1_rangeFault 5 = .ok (.isub, 1) := by decide +kernel
theorem dX1_rangeFault_6 : decode cX1_rangeFault 6 = .ok (.istore 5, 2) := by decide +kernel
theorem dX1_rangeFault_8 : decode cX1_rangeFault 8 = .ok (.iload_n 1, 1) := by decide +kernel
theorem dX1_rangeFault_9 : decode cX1_rangeFault 9 = .ok (.iconst 1, 1) := by decide +kernel
theorem dX1_rangeFault_10 : decode cX1_rangeFault 10 = .ok (.if_icmp .ne 20, 3) := by decide +kernel
theorem dX1_rangeFault_13 : decode cX1_rangeFault 13 = .ok (.iload_n 2, 1) := by decide +kernel
theorem dX1_rangeFault_14 : decode cX1_rangeFault 14 = .ok (.iload 4, 2) := by decide +kernel
theorem dX1_rangeFault_16 : decode cX1_rangeFault 16 = .ok (.iadd, 1) := by decide +kernel
theorem dX1_rangeFault_17 : decode cX1_rangeFault 17 = .ok (.aload_n 0, 1) := by decide +kernel
theorem dX1_rangeFault_18 : decode cX1_rangeFault 18 = .ok (.getfield 12, 3) := by decide +kernel
theorem dX1_rangeFault_21 : decode cX1_rangeFault 21 = .ok (.getfield 68, 3) := by decide +kernel
theorem dX1_rangeFault_24 : decode cX1_rangeFault 24 = .ok (.if_icmp .le 6, 3) := by decide +kernel
theorem dX1_rangeFault_27 : decode cX1_rangeFault 27 = .ok (.iload 5, 2) := by decide +kernel
theorem dX1_rangeFault_29 : decode cX1_rangeFault 29 = .ok (.ireturn, 1) := by decide +kernel
theorem dX1_rangeFault_30 : decode cX1_rangeFault 30 = .ok (.iload_n 3, 1) := by decide +kernel
theorem dX1_rangeFault_31 : decode cX1_rangeFault 31 = .ok (.iload 4, 2) := by decide +kernel
theorem dX1_rangeFault_33 : decode cX1_rangeFault 33 = .ok (.iadd, 1) := by decide +kernel
theorem dX1_rangeFault_34 : decode cX1_rangeFault 34 = .ok (.aload_n 0, 1) := by decide +kernel
theorem dX1_rangeFault_35 : decode cX1_rangeFault 35 = .ok (.getfield 12, 3) := by decide +kernel
theorem dX1_rangeFault_38 : decode cX1_rangeFault 38 = .ok (.getfield 71, 3) := by decide +kernel
theorem dX1_rangeFault_41 : decode cX1_rangeFault 41 = .ok (.if_icmp .le 6, 3) := by decide +kernel
theorem dX1_rangeFault_44 : decode cX1_rangeFault 44 = .ok (.iload 5, 2) := by decide +kernel
theorem dX1_rangeFault_46 : decode cX1_rangeFault 46 = .ok (.ireturn, 1) := by decide +kernel
theorem dX1_rangeFault_47 : decode cX1_rangeFault 47 = .ok (.aload_n 0, 1) := by decide +kernel
theorem dX1_rangeFault_48 : decode cX1_rangeFault 48 = .ok (.getfield 12, 3) := by decide +kernel
theorem dX1_rangeFault_51 : decode cX1_rangeFault 51 = .ok (.iload_n 3, 1) := by decide +kernel
theorem dX1_rangeFault_52 : decode cX1_rangeFault 52 = .ok (.iload 4, 2) := by decide +kernel
theorem dX1_rangeFault_54 : decode cX1_rangeFault 54 = .ok (.invokevirtual 74, 3) := by decide +kernel
theorem dX1_rangeFault_57 : decode cX1_rangeFault 57 = .ok (.ifCond .eq 10, 3) := by decide +kernel
theorem dX1_rangeFault_60 : decode cX1_rangeFault 60 = .ok (.iload 5, 2) := by decide +kernel
theorem dX1_rangeFault_62 : decode cX1_rangeFault 62 = .ok (.iconst 1, 1) := by decide +kernel
theorem dX1_rangeFault_63 : decode cX1_rangeFault 63 = .ok (.isub, 1) := by decide +kernel
theorem dX1_rangeFault_64 : decode cX1_rangeFault 64 = .ok (.goto 4, 3) := by decide +kernel
theorem dX1_rangeFault_67 : decode cX1_rangeFault 67 = .ok (.iconst (-1), 1) := by decide +kernel
theorem dX1_rangeFault_68 : decode cX1_rangeFault 68 = .ok (.ireturn, 1) := by decide +kernel
theorem dX2_init_0 : decode cX2_init 0 = .ok (.aload_n 0, 1) := by decide +kernel
theorem dX2_init_1 : decode cX2_init 1 = .ok (.invokespecial 3, 3) := by decide +kernel
theorem dX2_init_4 : decode cX2_init 4 = .ok (.aload_n 0, 1) := by decide +kernel
theorem dX2_init_5 : decode cX2_init 5 = .ok (.bipush 30, 2) := by decide +kernel
theorem dX2_init_7 : decode cX2_init 7 = .ok (.newarray .int, 2) := by decide +kernel
theorem dX2_init_9 : decode cX2_init 9 = .ok (.putfield 9, 3) := by decide +kernel
theorem dX2_init_12 : decode cX2_init 12 = .ok (.aload_n 0, 1) := by decide +kernel
theorem dX2_init_13 : decode cX2_init 13 = .ok (.bipush 30, 2) := by decide +kernel
theorem dX2_init_15 : decode cX2_init 15 = .ok (.newarray .int, 2) := by decide +kernel
theorem dX2_init_17 : decode cX2_init 17 = .ok (.putfield 15, 3) := by decide +kernel
theorem dX2_init_20 : decode cX2_init 20 = .ok (.aload_n 0, 1) := by decide +kernel
theorem dX2_init_21 : decode cX2_init 21 = .ok (.bipush 30, 2) := by decide +kernel
theorem dX2_init_23 : decode cX2_init 23 = .ok (.newarray .int, 2) := by decide +kernel
theorem dX2_init_25 : decode cX2_init 25 = .ok (.putfield 18, 3) := by decide +kernel
theorem dX2_init_28 : decode cX2_init 28 = .ok (.aload_n 0, 1) := by decide +kernel
theorem dX2_init_29 : decode cX2_init 29 = .ok (.bipush 30, 2) := by decide +kernel
theorem dX2_init_31 : decode cX2_init 31 = .ok (.newarray .int, 2) := by decide +kernel
theorem dX2_init_33 : decode cX2_init 33 = .ok (.putfield 21, 3) := by decide +kernel
theorem dX2_init_36 : decode cX2_init 36 = .ok (.aload_n 0, 1) := by decide +kernel
theorem dX2_init_37 : decode cX2_init 37 = .ok (.bipush 30, 2) := by decide +kernel
theorem dX2_init_39 : decode cX2_init 39 = .ok (.newarray .int, 2) := by decide +kernel
theorem dX2_init_41 : decode cX2_init 41 = .ok (.putfield 24, 3) := by decide +kernel
theorem dX2_init_44 : decode cX2_init 44 = .ok (.aload_n 0, 1) := by decide +kernel
theorem dX2_init_45 : decode cX2_init 45 = .ok (.bipush 64, 2) := by decide +kernel
theorem dX2_init_47 : decode cX2_init 47 = .ok (.newarray .int, 2) := by decide +kernel
theorem dX2_init_49 : decode cX2_init 49 = .ok (.putfield 27, 3) := by decide +kernel
theorem dX2_init_52 : decode cX2_init 52 = .ok (.aload_n 0, 1) := by decide +kernel
theorem dX2_init_53 : decode cX2_init 53 = .ok (.iconst (-1), 1) := by decide +kernel
theorem dX2_init_54 : decode cX2_init 54 = .ok (.putfield 30, 3) := by decide +kernel
theorem dX2_init_57 : decode cX2_init 57 = .ok (.return_, 1) := by decide +kernel
theorem dX2_has_0 : decode cX2_has 0 = .ok (.iload_n 1, 1) := by decide +kernel
theorem dX2_has_1 : decode cX2_has 1 = .ok (.ifCond .lt 15, 3) := by decide +kernel
theorem dX2_has_4 : decode cX2_has 4 = .ok (.iload_n 1, 1) := by decide +kernel
theorem dX2_has_5 : decode cX2_has 5 = .ok (.aload_n 0, 1) := by decide +kernel
theorem dX2_has_6 : decode cX2_has 6 = .ok (.getfield 34, 3) := by decide +kernel
theorem dX2_has_9 : decode cX2_has 9 = .ok (.if_icmp .ge 7, 3) := by decide +kernel
theorem dX2_has_12 : decode cX2_has 12 = .ok (.iconst 1, 1) := by decide +kernel
theorem dX2_has_13 : decode cX2_has 13 = .ok (.goto 4, 3) := by decide +kernel
theorem dX2_has_16 : decode cX2_has 16 = .ok (.iconst 0, 1) := by decide +kernel
theorem dX2_has_17 : decode cX2_has 17 = .ok (.ireturn, 1) := by decide +kernel
theorem dX2_isCopy_0 : decode cX2_isCopy 0 = .ok (.aload_n 0, 1) := by decide +kernel
theorem dX2_isCopy_1 : decode cX2_isCopy 1 = .ok (.getfield 37, 3) := by decide +kernel
theorem dX2_isCopy_4 : decode cX2_isCopy 4 = .ok (.iload_n 1, 1) := by decide +kernel
theorem dX2_isCopy_5 : decode cX2_isCopy 5 = .ok (.invokestatic 40, 3) := by decide +kernel
theorem dX2_isCopy_8 : decode cX2_isCopy 8 = .ok (.ireturn, 1) := by decide +kernel
theorem dX2_mayCopy_0 : decode cX2_mayCopy 0 = .ok (.aload_n 0, 1) := by decide +kernel
theorem dX2_mayCopy_1 : decode cX2_mayCopy 1 = .ok (.getfield 37, 3) := by decide +kernel
theorem dX2_mayCopy_4 : decode cX2_mayCopy 4 = .ok (.invokestatic 44, 3) := by decide +kernel
theorem dX2_mayCopy_7 : decode cX2_mayCopy 7 = .ok (.bipush 12, 2) := by decide +kernel
theorem dX2_mayCopy_9 : decode cX2_mayCopy 9 = .ok (.if_icmp .ge 7, 3) := by decide +kernel
theorem dX2_mayCopy_12 : decode cX2_mayCopy 12 = .ok (.iconst 1, 1) := by decide +kernel
theorem dX2_mayCopy_13 : decode cX2_mayCopy 13 = .ok (.goto 4, 3) := by decide +kernel
theorem dX2_mayCopy_16 : decode cX2_mayCopy 16 = .ok (.iconst 0, 1) := by decide +kernel
theorem dX2_mayCopy_17 : decode cX2_mayCopy 17 = .ok (.ireturn, 1) := by decide +kernel
theorem dX2_sourceOf_0 : decode cX2_sourceOf 0 = .ok (.aload_n 0, 1) := by decide +kernel
theorem dX2_sourceOf_1 : decode cX2_sourceOf 1 = .ok (.iload_n 1, 1) := by decide +kernel
theorem dX2_sourceOf_2 : decode cX2_sourceOf 2 = .ok (.invokevirtual 50, 3) := by decide +kernel
theorem dX2_sourceOf_5 : decode cX2_sourceOf 5 = .ok (.ifCond .eq 12, 3) := by decide +kernel
theorem dX2_sourceOf_8 : decode cX2_sourceOf 8 = .ok (.aload_n 0, 1) := by decide +kernel
theorem dX2_sourceOf_9 : decode cX2_sourceOf 9 = .ok (.getfield 15, 3) := by decide +kernel
theorem dX2_sourceOf_12 : decode cX2_sourceOf 12 = .ok (.iload_n 1, 1) := by decide +kernel
theorem dX2_sourceOf_13 : decode cX2_sourceOf 13 = .ok (.iaload, 1) := by decide +kernel
theorem dX2_sourceOf_14 : decode cX2_sourceOf 14 = .ok (.goto 4, 3) := by decide +kernel
theorem dX2_sourceOf_17 : decode cX2_sourceOf 17 = .ok (.iconst (-1), 1) := by decide +kernel
theorem dX2_sourceOf_18 : decode cX2_sourceOf 18 = .ok (.ireturn, 1) := by decide +kernel
theorem dX2_targetOf_0 : decode cX2_targetOf 0 = .ok (.aload_n 0, 1) := by decide +kernel
theorem dX2_targetOf_1 : decode cX2_targetOf 1 = .ok (.iload_n 1, 1) := by decide +kernel
theorem dX2_targetOf_2 : decode cX2_targetOf 2 = .ok (.invokevirtual 50, 3) := by decide +kernel
theorem dX2_targetOf_5 : decode cX2_targetOf 5 = .ok (.ifCond .eq 12, 3) := by decide +kernel
theorem dX2_targetOf_8 : decode cX2_targetOf 8 = .ok (.aload_n 0, 1) := by decide +kernel
theorem dX2_targetOf_9 : decode cX2_targetOf 9 = .ok (.getfield 18, 3) := by decide +kernel
theorem dX2_targetOf_12 : decode cX2_targetOf 12 = .ok (.iload_n 1, 1) := by decide +kernel
theorem dX2_targetOf_13 : decode cX2_targetOf 13 = .ok (.iaload, 1) := by decide +kernel
theorem dX2_targetOf_14 : decode cX2_targetOf 14 = .ok (.goto 4, 3) := by decide +kernel
theorem dX2_targetOf_17 : decode cX2_targetOf 17 = .ok (.iconst (-1), 1) := by decide +kernel
theorem dX2_targetOf_18 : decode cX2_targetOf 18 = .ok (.ireturn, 1) := by decide +kernel
theorem dX2_lengthOf_0 : decode cX2_lengthOf 0 = .ok (.aload_n 0, 1) := by decide +kernel
theorem dX2_lengthOf_1 : decode cX2_lengthOf 1 = .ok (.iload_n 1, 1) := by decide +kernel
theorem dX2_lengthOf_2 : decode cX2_lengthOf 2 = .ok (.invokevirtual 50, 3) := by decide +kernel
theorem dX2_lengthOf_5 : decode cX2_lengthOf 5 = .ok (.ifCond .eq 12, 3) := by decide +kernel
theorem dX2_lengthOf_8 : decode cX2_lengthOf 8 = .ok (.aload_n 0, 1) := by decide +kernel
theorem dX2_lengthOf_9 : decode cX2_lengthOf 9 = .ok (.getfield 21, 3) := by decide +kernel
theorem dX2_lengthOf_12 : decode cX2_lengthOf 12 = .ok (.iload_n 1, 1) := by decide +kernel
theorem dX2_lengthOf_13 : decode cX2_lengthOf 13 = .ok (.iaload, 1) := by decide +kernel
theorem dX2_lengthOf_14 : decode cX2_lengthOf 14 = .ok (.goto 4, 3) := by decide +kernel
theorem dX2_lengthOf_17 : decode cX2_lengthOf 17 = .ok (.iconst 0, 1) := by decide +kernel
theorem dX2_lengthOf_18 : decode cX2_lengthOf 18 = .ok (.ireturn, 1) := by decide +kernel
theorem dX2_precedersOf_0 : decode cX2_precedersOf 0 = .ok (.aload_n 0, 1) := by decide +kernel
theorem dX2_precedersOf_1 : decode cX2_precedersOf 1 = .ok (.iload_n 1, 1) := by decide +kernel
theorem dX2_precedersOf_2 : decode cX2_precedersOf 2 = .ok (.invokevirtual 50, 3) := by decide +kernel
theorem dX2_precedersOf_5 : decode cX2_precedersOf 5 = .ok (.ifCond .eq 12, 3) := by decide +kernel
theorem dX2_precedersOf_8 : decode cX2_precedersOf 8 = .ok (.aload_n 0, 1) := by decide +kernel
theorem dX2_precedersOf_9 : decode cX2_precedersOf 9 = .ok (.getfield 24, 3) := by decide +kernel
theorem dX2_precedersOf_12 : decode cX2_precedersOf 12 = .ok (.iload_n 1, 1) := by decide +kernel
theorem dX2_precedersOf_13 : decode cX2_precedersOf 13 = .ok (.iaload, 1) := by decide +kernel
theorem dX2_precedersOf_14 : decode cX2_precedersOf 14 = .ok (.goto 4, 3) := by decide +kernel
theorem dX2_precedersOf_17 : decode cX2_precedersOf 17 = .ok (.iconst 0, 1) := by decide +kernel
theorem dX2_precedersOf_18 : decode cX2_precedersOf 18 = .ok (.ireturn, 1) := by decide +kernel
theorem dX2_addedAt_0 : decode cX2_addedAt 0 = .ok (.iload_n 1, 1) := by decide +kernel
theorem dX2_addedAt_1 : decode cX2_addedAt 1 = .ok (.ifCond .lt 18, 3) := by decide +kernel
theorem dX2_addedAt_4 : decode cX2_addedAt 4 = .ok (.iload_n 1, 1) := by decide +kernel
theorem dX2_addedAt_5 : decode cX2_addedAt 5 = .ok (.bipush 64, 2) := by decide +kernel
theorem dX2_addedAt_7 : decode cX2_addedAt 7 = .ok (.if_icmp .ge 12, 3) := by decide +kernel
theorem dX2_addedAt_10 : decode cX2_addedAt 10 = .ok (.aload_n 0, 1) := by decide +kernel
theorem dX2_addedAt_11 : decode cX2_addedAt 11 = .ok (.getfield 27, 3) := by decide +kernel
theorem dX2_addedAt_14 : decode cX2_addedAt 14 = .ok (.iload_n 1, 1) := by decide +kernel
theorem dX2_addedAt_15 : decode cX2_addedAt 15 = .ok (.iaload, 1) := by decide +kernel
theorem dX2_addedAt_16 : decode cX2_addedAt 16 = .ok (.goto 4, 3) := by decide +kernel
theorem dX2_addedAt_19 : decode cX2_addedAt 19 = .ok (.iconst 0, 1) := by decide +kernel
theorem dX2_addedAt_20 : decode cX2_addedAt 20 = .ok (.ireturn, 1) := by decide +kernel
theorem dX2_describe_0 : decode cX2_describe 0 = .ok (.iload_n 2, 1) := by decide +kernel
theorem dX2_describe_1 : decode cX2_describe 1 = .ok (.tableswitch 58 0 2 #[27, 46, 52], 27) := by decide +kernel
theorem dX2_describe_28 : decode cX2_describe 28 = .ok (.aload_n 0, 1) := by decide +kernel
theorem dX2_describe_29 : decode cX2_describe 29 = .ok (.iload_n 1, 1) := by decide +kernel
theorem dX2_describe_30 : decode cX2_describe 30 = .ok (.invokevirtual 50, 3) := by decide +kernel
theorem dX2_describe_33 : decode cX2_describe 33 = .ok (.ifCond .eq 12, 3) := by decide +kernel
theorem dX2_describe_36 : decode cX2_describe 36 = .ok (.aload_n 0, 1) := by decide +kernel
theorem dX2_describe_37 : decode cX2_describe 37 = .ok (.getfield 9, 3) := by decide +kernel
theorem dX2_describe_40 : decode cX2_describe 40 = .ok (.iload_n 1, 1) := by decide +kernel
theorem dX2_describe_41 : decode cX2_describe 41 = .ok (.iaload, 1) := by decide +kernel
theorem dX2_describe_42 : decode cX2_describe 42 = .ok (.goto 4, 3) := by decide +kernel
theorem dX2_describe_45 : decode cX2_describe 45 = .ok (.iconst (-1), 1) := by decide +kernel
theorem dX2_describe_46 : decode cX2_describe 46 = .ok (.ireturn, 1) := by decide +kernel
theorem dX2_describe_47 : decode cX2_describe 47 = .ok (.aload_n 0, 1) := by decide +kernel
theorem dX2_describe_48 : decode cX2_describe 48 = .ok (.iload_n 1, 1) := by decide +kernel
theorem dX2_describe_49 : decode cX2_describe 49 = .ok (.invokevirtual 54, 3) := by decide +kernel
theorem dX2_describe_52 : decode cX2_describe 52 = .ok (.ireturn, 1) := by decide +kernel
theorem dX2_describe_53 : decode cX2_describe 53 = .ok (.aload_n 0, 1) := by decide +kernel
theorem dX2_describe_54 : decode cX2_describe 54 = .ok (.iload_n 1, 1) := by decide +kernel
theorem dX2_describe_55 : decode cX2_describe 55 = .ok (.invokevirtual 57, 3) := by decide +kernel
theorem dX2_describe_58 : decode cX2_describe 58 = .ok (.ireturn, 1) := by decide +kernel
theorem dX2_describe_59 : decode cX2_describe 59 = .ok (.aload_n 0, 1) := by decide +kernel
theorem dX2_describe_60 : decode cX2_describe 60 = .ok (.iload_n 1, 1) := by decide +kernel
theorem dX2_describe_61 : decode cX2_describe 61 = .ok (.invokevirtual 60, 3) := by decide +kernel
theorem dX2_describe_64 : decode cX2_describe 64 = .ok (.ireturn, 1) := by decide +kernel
theorem dX2_reset_0 : decode cX2_reset 0 = .ok (.aload_n 0, 1) := by decide +kernel
theorem dX2_reset_1 : decode cX2_reset 1 = .ok (.iload_n 1, 1) := by decide +kernel
theorem dX2_reset_2 : decode cX2_reset 2 = .ok (.putfield 63, 3) := by decide +kernel
theorem dX2_reset_5 : decode cX2_reset 5 = .ok (.aload_n 0, 1) := by decide +kernel
theorem dX2_reset_6 : decode cX2_reset 6 = .ok (.iload_n 2, 1) := by decide +kernel
theorem dX2_reset_7 : decode cX2_reset 7 = .ok (.putfield 66, 3) := by decide +kernel
theorem dX2_reset_10 : decode cX2_reset 10 = .ok (.aload_n 0, 1) := by decide +kernel
theorem dX2_reset_11 : decode cX2_reset 11 = .ok (.iconst 0, 1) := by decide +kernel
theorem dX2_reset_12 : decode cX2_reset 12 = .ok (.putfield 34, 3) := by decide +kernel
theorem dX2_reset_15 : decode cX2_reset 15 = .ok (.aload_n 0, 1) := by decide +kernel
theorem dX2_reset_16 : decode cX2_reset 16 = .ok (.iconst 0, 1) := by decide +kernel
theorem dX2_reset_17 : decode cX2_reset 17 = .ok (.putfield 37, 3) := by decide +kernel
theorem dX2_reset_20 : decode cX2_reset 20 = .ok (.aload_n 0, 1) := by decide +kernel
theorem dX2_reset_21 : decode cX2_reset 21 = .ok (.iconst (-1), 1) := by decide +kernel
theorem dX2_reset_22 : decode cX2_reset 22 = .ok (.putfield 30, 3) := by decide +kernel
theorem dX2_reset_25 : decode cX2_reset 25 = .ok (.return_, 1) := by decide +kernel
theorem dX2_push_0 : decode cX2_push 0 = .ok (.aload_n 0, 1) := by decide +kernel
theorem dX2_push_1 : decode cX2_push 1 = .ok (.getfield 34, 3) := by decide +kernel
theorem dX2_push_4 : decode cX2_push 4 = .ok (.bipush 30, 2) := by decide +kernel
theorem dX2_push_6 : decode cX2_push 6 = .ok (.if_icmp .ge 79, 3) := by decide +kernel
theorem dX2_push_9 : decode cX2_push 9 = .ok (.aload_n 0, 1) := by decide +kernel
theorem dX2_push_10 : decode cX2_push 10 = .ok (.getfield 9, 3) := by decide +kernel
theorem dX2_push_13 : decode cX2_push 13 = .ok (.aload_n 0, 1) := by decide +kernel
theorem dX2_push_14 : decode cX2_push 14 = .ok (.getfield 34, 3) := by decide +kernel
theorem dX2_push_17 : decode cX2_push 17 = .ok (.iload_n 1, 1) := by decide +kernel
theorem dX2_push_18 : decode cX2_push 18 = .ok (.iastore, 1) := by decide +kernel
theorem dX2_push_19 : decode cX2_push 19 = .ok (.aload_n 0, 1) := by decide +kernel
theorem dX2_push_20 : decode cX2_push 20 = .ok (.getfield 15, 3) := by decide +kernel
theorem dX2_push_23 : decode cX2_push 23 = .ok (.aload_n 0, 1) := by decide +kernel
theorem dX2_push_24 : decode cX2_push 24 = .ok (.getfield 34, 3) := by decide +kernel
theorem dX2_push_27 : decode cX2_push 27 = .ok (.iload_n 2, 1) := by decide +kernel
theorem dX2_push_28 : decode cX2_push 28 = .ok (.iastore, 1) := by decide +kernel
theorem dX2_push_29 : decode cX2_push 29 = .ok (.aload_n 0, 1) := by decide +kernel
theorem dX2_push_30 : decode cX2_push 30 = .ok (.getfield 18, 3) := by decide +kernel
theorem dX2_push_33 : decode cX2_push 33 = .ok (.aload_n 0, 1) := by decide +kernel
theorem dX2_push_34 : decode cX2_push 34 = .ok (.getfield 34, 3) := by decide +kernel
theorem dX2_push_37 : decode cX2_push 37 = .ok (.iload_n 3, 1) := by decide +kernel
theorem dX2_push_38 : decode cX2_push 38 = .ok (.iastore, 1) := by decide +kernel
theorem dX2_push_39 : decode cX2_push 39 = .ok (.aload_n 0, 1) := by decide +kernel
theorem dX2_push_40 : decode cX2_push 40 = .ok (.getfield 21, 3) := by decide +kernel
theorem dX2_push_43 : decode cX2_push 43 = .ok (.aload_n 0, 1) := by decide +kernel
theorem dX2_push_44 : decode cX2_push 44 = .ok (.getfield 34, 3) := by decide +kernel
theorem dX2_push_47 : decode cX2_push 47 = .ok (.iload 4, 2) := by decide +kernel
theorem dX2_push_49 : decode cX2_push 49 = .ok (.iastore, 1) := by decide +kernel
theorem dX2_push_50 : decode cX2_push 50 = .ok (.aload_n 0, 1) := by decide +kernel
theorem dX2_push_51 : decode cX2_push 51 = .ok (.getfield 24, 3) := by decide +kernel
theorem dX2_push_54 : decode cX2_push 54 = .ok (.aload_n 0, 1) := by decide +kernel
theorem dX2_push_55 : decode cX2_push 55 = .ok (.getfield 34, 3) := by decide +kernel
theorem dX2_push_58 : decode cX2_push 58 = .ok (.iconst 0, 1) := by decide +kernel
theorem dX2_push_59 : decode cX2_push 59 = .ok (.iastore, 1) := by decide +kernel
theorem dX2_push_60 : decode cX2_push 60 = .ok (.aload_n 0, 1) := by decide +kernel
theorem dX2_push_61 : decode cX2_push 61 = .ok (.dup, 1) := by decide +kernel
theorem dX2_push_62 : decode cX2_push 62 = .ok (.getfield 34, 3) := by decide +kernel
theorem dX2_push_65 : decode cX2_push 65 = .ok (.iconst 1, 1) := by decide +kernel
theorem dX2_push_66 : decode cX2_push 66 = .ok (.iadd, 1) := by decide +kernel
theorem dX2_push_67 : decode cX2_push 67 = .ok (.putfield 34, 3) := by decide +kernel
theorem dX2_push_70 : decode cX2_push 70 = .ok (.iload_n 1, 1) := by decide +kernel
theorem dX2_push_71 : decode cX2_push 71 = .ok (.iconst 1, 1) := by decide +kernel
theorem dX2_push_72 : decode cX2_push 72 = .ok (.if_icmp .ne 13, 3) := by decide +kernel
theorem dX2_push_75 : decode cX2_push 75 = .ok (.aload_n 0, 1) := by decide +kernel
theorem dX2_push_76 : decode cX2_push 76 = .ok (.aload_n 0, 1) := by decide +kernel
theorem dX2_push_77 : decode cX2_push 77 = .ok (.getfield 34, 3) := by decide +kernel
theorem dX2_push_80 : decode cX2_push 80 = .ok (.iconst 1, 1) := by decide +kernel
theorem dX2_push_81 : decode cX2_push 81 = .ok (.isub, 1) := by decide +kernel
theorem dX2_push_82 : decode cX2_push 82 = .ok (.invokevirtual 69, 3) := by decide +kernel
theorem dX2_push_85 : decode cX2_push 85 = .ok (.return_, 1) := by decide +kernel
theorem dX2_linkCopy_0 : decode cX2_linkCopy 0 = .ok (.iconst 0, 1) := by decide +kernel
theorem dX2_linkCopy_1 : decode cX2_linkCopy 1 = .ok (.istore_n 2, 1) := by decide +kernel
theorem dX2_linkCopy_2 : decode cX2_linkCopy 2 = .ok (.iload_n 2, 1) := by decide +kernel
theorem dX2_linkCopy_3 : decode cX2_linkCopy 3 = .ok (.iload_n 1, 1) := by decide +kernel
theorem dX2_linkCopy_4 : decode cX2_linkCopy 4 = .ok (.if_icmp .ge 29, 3) := by decide +kernel
theorem dX2_linkCopy_7 : decode cX2_linkCopy 7 = .ok (.aload_n 0, 1) := by decide +kernel
theorem dX2_linkCopy_8 : decode cX2_linkCopy 8 = .ok (.iload_n 2, 1) := by decide +kernel
theorem dX2_linkCopy_9 : decode cX2_linkCopy 9 = .ok (.invokevirtual 73, 3) := by decide +kernel
theorem dX2_linkCopy_12 : decode cX2_linkCopy 12 = .ok (.ifCond .eq 15, 3) := by decide +kernel
theorem dX2_linkCopy_15 : decode cX2_linkCopy 15 = .ok (.aload_n 0, 1) := by decide +kernel
theorem dX2_linkCopy_16 : decode cX2_linkCopy 16 = .ok (.iload_n 2, 1) := by decide +kernel
theorem dX2_linkCopy_17 : decode cX2_linkCopy 17 = .ok (.iload_n 1, 1) := by decide +kernel
theorem dX2_linkCopy_18 : decode cX2_linkCopy 18 = .ok (.invokevirtual 76, 3) := by decide +kernel
theorem dX2_linkCopy_21 : decode cX2_linkCopy 21 = .ok (.aload_n 0, 1) := by decide +kernel
theorem dX2_linkCopy_22 : decode cX2_linkCopy 22 = .ok (.iload_n 1, 1) := by decide +kernel
theorem dX2_linkCopy_23 : decode cX2_linkCopy 23 = .ok (.iload_n 2, 1) := by decide +kernel
theorem dX2_linkCopy_24 : decode cX2_linkCopy 24 = .ok (.invokevirtual 76, 3) := by decide +kernel
theorem dX2_linkCopy_27 : decode cX2_linkCopy 27 = .ok (.iinc 2 1, 3) := by decide +kernel
theorem dX2_linkCopy_30 : decode cX2_linkCopy 30 = .ok (.goto (-28), 3) := by decide +kernel
theorem dX2_linkCopy_33 : decode cX2_linkCopy 33 = .ok (.aload_n 0, 1) := by decide +kernel
theorem dX2_linkCopy_34 : decode cX2_linkCopy 34 = .ok (.dup, 1) := by decide +kernel
theorem dX2_linkCopy_35 : decode cX2_linkCopy 35 = .ok (.getfield 37, 3) := by decide +kernel
theorem dX2_linkCopy_38 : decode cX2_linkCopy 38 = .ok (.iconst 1, 1) := by decide +kernel
theorem dX2_linkCopy_39 : decode cX2_linkCopy 39 = .ok (.iload_n 1, 1) := by decide +kernel
theorem dX2_linkCopy_40 : decode cX2_linkCopy 40 = .ok (.ishl, 1) := by decide +kernel
theorem dX2_linkCopy_41 : decode cX2_linkCopy 41 = .ok (.ior, 1) := by decide +kernel
theorem dX2_linkCopy_42 : decode cX2_linkCopy 42 = .ok (.putfield 37, 3) := by decide +kernel
theorem dX2_linkCopy_45 : decode cX2_linkCopy 45 = .ok (.return_, 1) := by decide +kernel
theorem dX2_linkPair_0 : decode cX2_linkPair 0 = .ok (.aload_n 0, 1) := by decide +kernel
theorem dX2_linkPair_1 : decode cX2_linkPair 1 = .ok (.iload_n 1, 1) := by decide +kernel
theorem dX2_linkPair_2 : decode cX2_linkPair 2 = .ok (.invokevirtual 54, 3) := by decide +kernel
theorem dX2_linkPair_5 : decode cX2_linkPair 5 = .ok (.aload_n 0, 1) := by decide +kernel
theorem dX2_linkPair_6 : decode cX2_linkPair 6 = .ok (.iload_n 1, 1) := by decide +kernel
theorem dX2_linkPair_7 : decode cX2_linkPair 7 = .ok (.invokevirtual 60, 3) := by decide +kernel
theorem dX2_linkPair_10 : decode cX2_linkPair 10 = .ok (.aload_n 0, 1) := by decide +kernel
theorem dX2_linkPair_11 : decode cX2_linkPair 11 = .ok (.iload_n 2, 1) := by decide +kernel
theorem dX2_linkPair_12 : decode cX2_linkPair 12 = .ok (.invokevirtual 57, 3) := by decide +kernel
theorem dX2_linkPair_15 : decode cX2_linkPair 15 = .ok (.aload_n 0, 1) := by decide +kernel
theorem dX2_linkPair_16 : decode cX2_linkPair 16 = .ok (.iload_n 2, 1) := by decide +kernel
theorem dX2_linkPair_17 : decode cX2_linkPair 17 = .ok (.invokevirtual 60, 3) := by decide +kernel
theorem dX2_linkPair_20 : decode cX2_linkPair 20 = .ok (.invokestatic 80, 3) := by decide +kernel
theorem dX2_linkPair_23 : decode cX2_linkPair 23 = .ok (.ifCond .eq 23, 3) := by decide +kernel
theorem dX2_linkPair_26 : decode cX2_linkPair 26 = .ok (.aload_n 0, 1) := by decide +kernel
theorem dX2_linkPair_27 : decode cX2_linkPair 27 = .ok (.iload_n 2, 1) := by decide +kernel
theorem dX2_linkPair_28 : decode cX2_linkPair 28 = .ok (.invokevirtual 50, 3) := by decide +kernel
theorem dX2_linkPair_31 : decode cX2_linkPair 31 = .ok (.ifCond .eq 15, 3) := by decide +kernel
theorem dX2_linkPair_34 : decode cX2_linkPair 34 = .ok (.aload_n 0, 1) := by decide +kernel
theorem dX2_linkPair_35 : decode cX2_linkPair 35 = .ok (.getfield 24, 3) := by decide +kernel
theorem dX2_linkPair_38 : decode cX2_linkPair 38 = .ok (.iload_n 2, 1) := by decide +kernel
theorem dX2_linkPair_39 : decode cX2_linkPair 39 = .ok (.dup2, 1) := by decide +kernel
theorem dX2_linkPair_40 : decode cX2_linkPair 40 = .ok (.iaload, 1) := by decide +kernel
theorem dX2_linkPair_41 : decode cX2_linkPair 41 = .ok (.iconst 1, 1) := by decide +kernel
theorem dX2_linkPair_42 : decode cX2_linkPair 42 = .ok (.iload_n 1, 1) := by decide +kernel
theorem dX2_linkPair_43 : decode cX2_linkPair 43 = .ok (.ishl, 1) := by decide +kernel
theorem dX2_linkPair_44 : decode cX2_linkPair 44 = .ok (.ior, 1) := by decide +kernel
theorem dX2_linkPair_45 : decode cX2_linkPair 45 = .ok (.iastore, 1) := by decide +kernel
theorem dX2_linkPair_46 : decode cX2_linkPair 46 = .ok (.return_, 1) := by decide +kernel
theorem dX2_putAdded_0 : decode cX2_putAdded 0 = .ok (.iload_n 1, 1) := by decide +kernel
theorem dX2_putAdded_1 : decode cX2_putAdded 1 = .ok (.ifCond .lt 16, 3) := by decide +kernel
theorem dX2_putAdded_4 : decode cX2_putAdded 4 = .ok (.iload_n 1, 1) := by decide +kernel
theorem dX2_putAdded_5 : decode cX2_putAdded 5 = .ok (.bipush 64, 2) := by decide +kernel
theorem dX2_putAdded_7 : decode cX2_putAdded 7 = .ok (.if_icmp .ge 10, 3) := by decide +kernel
theorem dX2_putAdded_10 : decode cX2_putAdded 10 = .ok (.aload_n 0, 1) := by decide +kernel
theorem dX2_putAdded_11 : decode cX2_putAdded 11 = .ok (.getfield 27, 3) := by decide +kernel
theorem dX2_putAdded_14 : decode cX2_putAdded 14 = .ok (.iload_n 1, 1) := by decide +kernel
theorem dX2_putAdded_15 : decode cX2_putAdded 15 = .ok (.iload_n 2, 1) := by decide +kernel
theorem dX2_putAdded_16 : decode cX2_putAdded 16 = .ok (.iastore, 1) := by decide +kernel
theorem dX2_putAdded_17 : decode cX2_putAdded 17 = .ok (.return_, 1) := by decide +kernel
theorem dX2_writesAnyOf_0 : decode cX2_writesAnyOf 0 = .ok (.iconst 0, 1) := by decide +kernel
theorem dX2_writesAnyOf_1 : decode cX2_writesAnyOf 1 = .ok (.istore_n 3, 1) := by decide +kernel
theorem dX2_writesAnyOf_2 : decode cX2_writesAnyOf 2 = .ok (.iload_n 3, 1) := by decide +kernel
theorem dX2_writesAnyOf_3 : decode cX2_writesAnyOf 3 = .ok (.aload_n 0, 1) := by decide +kernel
theorem dX2_writesAnyOf_4 : decode cX2_writesAnyOf 4 = .ok (.getfield 34, 3) := by decide +kernel
theorem dX2_writesAnyOf_7 : decode cX2_writesAnyOf 7 = .ok (.if_icmp .ge 29, 3) := by decide +kernel
theorem dX2_writesAnyOf_10 : decode cX2_writesAnyOf 10 = .ok (.aload_n 0, 1) := by decide +kernel
theorem dX2_writesAnyOf_11 : decode cX2_writesAnyOf 11 = .ok (.iload_n 3, 1) := by decide +kernel
theorem dX2_writesAnyOf_12 : decode cX2_writesAnyOf 12 = .ok (.invokevirtual 57, 3) := by decide +kernel
theorem dX2_writesAnyOf_15 : decode cX2_writesAnyOf 15 = .ok (.aload_n 0, 1) := by decide +kernel
theorem dX2_writesAnyOf_16 : decode cX2_writesAnyOf 16 = .ok (.iload_n 3, 1) := by decide +kernel
theorem dX2_writesAnyOf_17 : decode cX2_writesAnyOf 17 = .ok (.invokevirtual 60, 3) := by decide +kernel
theorem dX2_writesAnyOf_20 : decode cX2_writesAnyOf 20 = .ok (.iload_n 1, 1) := by decide +kernel
theorem dX2_writesAnyOf_21 : decode cX2_writesAnyOf 21 = .ok (.iload_n 2, 1) := by decide +kernel
theorem dX2_writesAnyOf_22 : decode cX2_writesAnyOf 22 = .ok (.invokestatic 80, 3) := by decide +kernel
theorem dX2_writesAnyOf_25 : decode cX2_writesAnyOf 25 = .ok (.ifCond .eq 5, 3) := by decide +kernel
theorem dX2_writesAnyOf_28 : decode cX2_writesAnyOf 28 = .ok (.iconst 1, 1) := by decide +kernel
theorem dX2_writesAnyOf_29 : decode cX2_writesAnyOf 29 = .ok (.ireturn, 1) := by decide +kernel
theorem dX2_writesAnyOf_30 : decode cX2_writesAnyOf 30 = .ok (.iinc 3 1, 3) := by decide +kernel
theorem dX2_writesAnyOf_33 : decode cX2_writesAnyOf 33 = .ok (.goto (-31), 3) := by decide +kernel
theorem dX2_writesAnyOf_36 : decode cX2_writesAnyOf 36 = .ok (.iconst 0, 1) := by decide +kernel
theorem dX2_writesAnyOf_37 : decode cX2_writesAnyOf 37 = .ok (.ireturn, 1) := by decide +kernel
theorem dX2_firstFree_0 : decode cX2_firstFree 0 = .ok (.iconst 0, 1) := by decide +kernel
theorem dX2_firstFree_1 : decode cX2_firstFree 1 = .ok (.istore_n 2, 1) := by decide +kernel
theorem dX2_firstFree_2 : decode cX2_firstFree 2 = .ok (.iload_n 2, 1) := by decide +kernel
theorem dX2_firstFree_3 : decode cX2_firstFree 3 = .ok (.aload_n 0, 1) := by decide +kernel
theorem dX2_firstFree_4 : decode cX2_firstFree 4 = .ok (.getfield 34, 3) := by decide +kernel
theorem dX2_firstFree_7 : decode cX2_firstFree 7 = .ok (.if_icmp .ge 29, 3) := by decide +kernel
theorem dX2_firstFree_10 : decode cX2_firstFree 10 = .ok (.iload_n 1, 1) := by decide +kernel
theorem dX2_firstFree_11 : decode cX2_firstFree 11 = .ok (.iload_n 2, 1) := by decide +kernel
theorem dX2_firstFree_12 : decode cX2_firstFree 12 = .ok (.invokestatic 40, 3) := by decide +kernel
theorem dX2_firstFree_15 : decode cX2_firstFree 15 = .ok (.ifCond .eq 15, 3) := by decide +kernel
theorem dX2_firstFree_18 : decode cX2_firstFree 18 = .ok (.aload_n 0, 1) := by decide +kernel
theorem dX2_firstFree_19 : decode cX2_firstFree 19 = .ok (.iload_n 2, 1) := by decide +kernel
theorem dX2_firstFree_20 : decode cX2_firstFree 20 = .ok (.invokevirtual 84, 3) := by decide +kernel
theorem dX2_firstFree_23 : decode cX2_firstFree 23 = .ok (.iload_n 1, 1) := by decide +kernel
theorem dX2_firstFree_24 : decode cX2_firstFree 24 = .ok (.iand, 1) := by decide +kernel
theorem dX2_firstFree_25 : decode cX2_firstFree 25 = .ok (.ifCond .ne 5, 3) := by decide +kernel
theorem dX2_firstFree_28 : decode cX2_firstFree 28 = .ok (.iload_n 2, 1) := by decide +kernel
theorem dX2_firstFree_29 : decode cX2_firstFree 29 = .ok (.ireturn, 1) := by decide +kernel
theorem dX2_firstFree_30 : decode cX2_firstFree 30 = .ok (.iinc 2 1, 3) := by decide +kernel
theorem dX2_firstFree_33 : decode cX2_firstFree 33 = .ok (.goto (-31), 3) := by decide +kernel
theorem dX2_firstFree_36 : decode cX2_firstFree 36 = .ok (.iconst (-1), 1) := by decide +kernel
theorem dX2_firstFree_37 : decode cX2_firstFree 37 = .ok (.ireturn, 1) := by decide +kernel
theorem dX2_least_0 : decode cX2_least 0 = .ok (.aload_n 0, 1) := by decide +kernel
theorem dX2_least_1 : decode cX2_least 1 = .ok (.getfield 30, 3) := by decide +kernel
theorem dX2_least_4 : decode cX2_least 4 = .ok (.iconst (-1), 1) := by decide +kernel
theorem dX2_least_5 : decode cX2_least 5 = .ok (.if_icmp .ne 11, 3) := by decide +kernel
theorem dX2_least_8 : decode cX2_least 8 = .ok (.aload_n 0, 1) := by decide +kernel
theorem dX2_least_9 : decode cX2_least 9 = .ok (.aload_n 0, 1) := by decide +kernel
theorem dX2_least_10 : decode cX2_least 10 = .ok (.invokestatic 87, 3) := by decide +kernel
theorem dX2_least_13 : decode cX2_least 13 = .ok (.putfield 30, 3) := by decide +kernel
theorem dX2_least_16 : decode cX2_least 16 = .ok (.aload_n 0, 1) := by decide +kernel
theorem dX2_least_17 : decode cX2_least 17 = .ok (.getfield 30, 3) := by decide +kernel
theorem dX2_least_20 : decode cX2_least 20 = .ok (.ireturn, 1) := by decide +kernel
theorem dX2_take_0 : decode cX2_take 0 = .ok (.aload_n 0, 1) := by decide +kernel
theorem dX2_take_1 : decode cX2_take 1 = .ok (.aload_n 1, 1) := by decide +kernel
theorem dX2_take_2 : decode cX2_take 2 = .ok (.getfield 63, 3) := by decide +kernel
theorem dX2_take_5 : decode cX2_take 5 = .ok (.putfield 63, 3) := by decide +kernel
theorem dX2_take_8 : decode cX2_take 8 = .ok (.aload_n 0, 1) := by decide +kernel
theorem dX2_take_9 : decode cX2_take 9 = .ok (.aload_n 1, 1) := by decide +kernel
theorem dX2_take_10 : decode cX2_take 10 = .ok (.getfield 66, 3) := by decide +kernel
theorem dX2_take_13 : decode cX2_take 13 = .ok (.putfield 66, 3) := by decide +kernel
theorem dX2_take_16 : decode cX2_take 16 = .ok (.aload_n 0, 1) := by decide +kernel
theorem dX2_take_17 : decode cX2_take 17 = .ok (.aload_n 1, 1) := by decide +kernel
theorem dX2_take_18 : decode cX2_take 18 = .ok (.getfield 34, 3) := by decide +kernel
theorem dX2_take_21 : decode cX2_take 21 = .ok (.putfield 34, 3) := by decide +kernel
theorem dX2_take_24 : decode cX2_take 24 = .ok (.aload_n 0, 1) := by decide +kernel
theorem dX2_take_25 : decode cX2_take 25 = .ok (.aload_n 1, 1) := by decide +kernel
theorem dX2_take_26 : decode cX2_take 26 = .ok (.getfield 37, 3) := by decide +kernel
theorem dX2_take_29 : decode cX2_take 29 = .ok (.putfield 37, 3) := by decide +kernel
theorem dX2_take_32 : decode cX2_take 32 = .ok (.aload_n 0, 1) := by decide +kernel
theorem dX2_take_33 : decode cX2_take 33 = .ok (.aload_n 1, 1) := by decide +kernel
theorem dX2_take_34 : decode cX2_take 34 = .ok (.getfield 30, 3) := by decide +kernel
theorem dX2_take_37 : decode cX2_take 37 = .ok (.putfield 30, 3) := by decide +kernel
theorem dX2_take_40 : decode cX2_take 40 = .ok (.aload_n 1, 1) := by decide +kernel
theorem dX2_take_41 : decode cX2_take 41 = .ok (.getfield 9, 3) := by decide +kernel
theorem dX2_take_44 : decode cX2_take 44 = .ok (.iconst 0, 1) := by decide +kernel
theorem dX2_take_45 : decode cX2_take 45 = .ok (.aload_n 0, 1) := by decide +kernel
theorem dX2_take_46 : decode cX2_take 46 = .ok (.getfield 9, 3) := by decide +kernel
theorem dX2_take_49 : decode cX2_take 49 = .ok (.iconst 0, 1) := by decide +kernel
theorem dX2_take_50 : decode cX2_take 50 = .ok (.bipush 30, 2) := by decide +kernel
theorem dX2_take_52 : decode cX2_take 52 = .ok (.invokestatic 93, 3) := by decide +kernel
theorem dX2_take_55 : decode cX2_take 55 = .ok (.aload_n 1, 1) := by decide +kernel
theorem dX2_take_56 : decode cX2_take 56 = .ok (.getfield 15, 3) := by decide +kernel
theorem dX2_take_59 : decode cX2_take 59 = .ok (.iconst 0, 1) := by decide +kernel
theorem dX2_take_60 : decode cX2_take 60 = .ok (.aload_n 0, 1) := by decide +kernel
theorem dX2_take_61 : decode cX2_take 61 = .ok (.getfield 15, 3) := by decide +kernel
theorem dX2_take_64 : decode cX2_take 64 = .ok (.iconst 0, 1) := by decide +kernel
theorem dX2_take_65 : decode cX2_take 65 = .ok (.bipush 30, 2) := by decide +kernel
theorem dX2_take_67 : decode cX2_take 67 = .ok (.invokestatic 93, 3) := by decide +kernel
theorem dX2_take_70 : decode cX2_take 70 = .ok (.aload_n 1, 1) := by decide +kernel
theorem dX2_take_71 : decode cX2_take 71 = .ok (.getfield 18, 3) := by decide +kernel
theorem dX2_take_74 : decode cX2_take 74 = .ok (.iconst 0, 1) := by decide +kernel
theorem dX2_take_75 : decode cX2_take 75 = .ok (.aload_n 0, 1) := by decide +kernel
theorem dX2_take_76 : decode cX2_take 76 = .ok (.getfield 18, 3) := by decide +kernel
theorem dX2_take_79 : decode cX2_take 79 = .ok (.iconst 0, 1) := by decide +kernel
theorem dX2_take_80 : decode cX2_take 80 = .ok (.bipush 30, 2) := by decide +kernel
theorem dX2_take_82 : decode cX2_take 82 = .ok (.invokestatic 93, 3) := by decide +kernel
theorem dX2_take_85 : decode cX2_take 85 = .ok (.aload_n 1, 1) := by decide +kernel
theorem dX2_take_86 : decode cX2_take 86 = .ok (.getfield 21, 3) := by decide +kernel
theorem dX2_take_89 : decode cX2_take 89 = .ok (.iconst 0, 1) := by decide +kernel
theorem dX2_take_90 : decode cX2_take 90 = .ok (.aload_n 0, 1) := by decide +kernel
theorem dX2_take_91 : decode cX2_take 91 = .ok (.getfield 21, 3) := by decide +kernel
theorem dX2_take_94 : decode cX2_take 94 = .ok (.iconst 0, 1) := by decide +kernel
theorem dX2_take_95 : decode cX2_take 95 = .ok (.bipush 30, 2) := by decide +kernel
theorem dX2_take_97 : decode cX2_take 97 = .ok (.invokestatic 93, 3) := by decide +kernel
theorem dX2_take_100 : decode cX2_take 100 = .ok (.aload_n 1, 1) := by decide +kernel
theorem dX2_take_101 : decode cX2_take 101 = .ok (.getfield 24, 3) := by decide +kernel
theorem dX2_take_104 : decode cX2_take 104 = .ok (.iconst 0, 1) := by decide +kernel
theorem dX2_take_105 : decode cX2_take 105 = .ok (.aload_n 0, 1) := by decide +kernel
theorem dX2_take_106 : decode cX2_take 106 = .ok (.getfield 24, 3) := by decide +kernel
theorem dX2_take_109 : decode cX2_take 109 = .ok (.iconst 0, 1) := by decide +kernel
theorem dX2_take_110 : decode cX2_take 110 = .ok (.bipush 30, 2) := by decide +kernel
theorem dX2_take_112 : decode cX2_take 112 = .ok (.invokestatic 93, 3) := by decide +kernel
theorem dX2_take_115 : decode cX2_take 115 = .ok (.aload_n 1, 1) := by decide +kernel
theorem dX2_take_116 : decode cX2_take 116 = .ok (.getfield 27, 3) := by decide +kernel
theorem dX2_take_119 : decode cX2_take 119 = .ok (.iconst 0, 1) := by decide +kernel
theorem dX2_take_120 : decode cX2_take 120 = .ok (.aload_n 0, 1) := by decide +kernel
theorem dX2_take_121 : decode cX2_take 121 = .ok (.getfield 27, 3) := by decide +kernel
theorem dX2_take_124 : decode cX2_take 124 = .ok (.iconst 0, 1) := by decide +kernel
theorem dX2_take_125 : decode cX2_take 125 = .ok (.bipush 64, 2) := by decide +kernel
theorem dX2_take_127 : decode cX2_take 127 = .ok (.invokestatic 93, 3) := by decide +kernel
theorem dX2_take_130 : decode cX2_take 130 = .ok (.return_, 1) := by decide +kernel
theorem dX2_mixInto_0 : decode cX2_mixInto 0 = .ok (.lload_n 1, 1) := by decide +kernel
theorem dX2_mixInto_1 : decode cX2_mixInto 1 = .ok (.aload_n 0, 1) := by decide +kernel
theorem dX2_mixInto_2 : decode cX2_mixInto 2 = .ok (.getfield 63, 3) := by decide +kernel
theorem dX2_mixInto_5 : decode cX2_mixInto 5 = .ok (.i2l, 1) := by decide +kernel
theorem dX2_mixInto_6 : decode cX2_mixInto 6 = .ok (.invokestatic 99, 3) := by decide +kernel
theorem dX2_mixInto_9 : decode cX2_mixInto 9 = .ok (.lstore_n 3, 1) := by decide +kernel
theorem dX2_mixInto_10 : decode cX2_mixInto 10 = .ok (.lload_n 3, 1) := by decide +kernel
theorem dX2_mixInto_11 : decode cX2_mixInto 11 = .ok (.aload_n 0, 1) := by decide +kernel
theorem dX2_mixInto_12 : decode cX2_mixInto 12 = .ok (.getfield 66, 3) := by decide +kernel
theorem dX2_mixInto_15 : decode cX2_mixInto 15 = .ok (.i2l, 1) := by decide +kernel
theorem dX2_mixInto_16 : decode cX2_mixInto 16 = .ok (.invokestatic 99, 3) := by decide +kernel
theorem dX2_mixInto_19 : decode cX2_mixInto 19 = .ok (.lstore_n 3, 1) := by decide +kernel
theorem dX2_mixInto_20 : decode cX2_mixInto 20 = .ok (.lload_n 3, 1) := by decide +kernel
theorem dX2_mixInto_21 : decode cX2_mixInto 21 = .ok (.aload_n 0, 1) := by decide +kernel
theorem dX2_mixInto_22 : decode cX2_mixInto 22 = .ok (.getfield 34, 3) := by decide +kernel
theorem dX2_mixInto_25 : decode cX2_mixInto 25 = .ok (.i2l, 1) := by decide +kernel
theorem dX2_mixInto_26 : decode cX2_mixInto 26 = .ok (.invokestatic 99, 3) := by decide +kernel
theorem dX2_mixInto_29 : decode cX2_mixInto 29 = .ok (.lstore_n 3, 1) := by decide +kernel
theorem dX2_mixInto_30 : decode cX2_mixInto 30 = .ok (.iconst 0, 1) := by decide +kernel
theorem dX2_mixInto_31 : decode cX2_mixInto 31 = .ok (.istore 5, 2) := by decide +kernel
theorem dX2_mixInto_33 : decode cX2_mixInto 33 = .ok (.iload 5, 2) := by decide +kernel
theorem dX2_mixInto_35 : decode cX2_mixInto 35 = .ok (.aload_n 0, 1) := by decide +kernel
theorem dX2_mixInto_36 : decode cX2_mixInto 36 = .ok (.getfield 34, 3) := by decide +kernel
theorem dX2_mixInto_39 : decode cX2_mixInto 39 = .ok (.if_icmp .ge 17, 3) := by decide +kernel
theorem dX2_mixInto_42 : decode cX2_mixInto 42 = .ok (.aload_n 0, 1) := by decide +kernel
theorem dX2_mixInto_43 : decode cX2_mixInto 43 = .ok (.lload_n 3, 1) := by decide +kernel
theorem dX2_mixInto_44 : decode cX2_mixInto 44 = .ok (.iload 5, 2) := by decide +kernel
theorem dX2_mixInto_46 : decode cX2_mixInto 46 = .ok (.invokevirtual 103, 3) := by decide +kernel
theorem dX2_mixInto_49 : decode cX2_mixInto 49 = .ok (.lstore_n 3, 1) := by decide +kernel
theorem dX2_mixInto_50 : decode cX2_mixInto 50 = .ok (.iinc 5 1, 3) := by decide +kernel
theorem dX2_mixInto_53 : decode cX2_mixInto 53 = .ok (.goto (-20), 3) := by decide +kernel
theorem dX2_mixInto_56 : decode cX2_mixInto 56 = .ok (.lload_n 3, 1) := by decide +kernel
theorem dX2_mixInto_57 : decode cX2_mixInto 57 = .ok (.lreturn, 1) := by decide +kernel
theorem dX2_mixCommandInto_0 : decode cX2_mixCommandInto 0 = .ok (.lload_n 1, 1) := by decide +kernel
theorem dX2_mixCommandInto_1 : decode cX2_mixCommandInto 1 = .ok (.lstore 4, 2) := by decide +kernel
theorem dX2_mixCommandInto_3 : decode cX2_mixCommandInto 3 = .ok (.iconst 0, 1) := by decide +kernel
theorem dX2_mixCommandInto_4 : decode cX2_mixCommandInto 4 = .ok (.istore 6, 2) := by decide +kernel
theorem dX2_mixCommandInto_6 : decode cX2_mixCommandInto 6 = .ok (.iload 6, 2) := by decide +kernel
theorem dX2_mixCommandInto_8 : decode cX2_mixCommandInto 8 = .ok (.iconst 3, 1) := by decide +kernel
theorem dX2_mixCommandInto_9 : decode cX2_mixCommandInto 9 = .ok (.if_icmp .gt 24, 3) := by decide +kernel
theorem dX2_mixCommandInto_12 : decode cX2_mixCommandInto 12 = .ok (.lload 4, 2) := by decide +kernel
theorem dX2_mixCommandInto_14 : decode cX2_mixCommandInto 14 = .ok (.aload_n 0, 1) := by decide +kernel
theorem dX2_mixCommandInto_15 : decode cX2_mixCommandInto 15 = .ok (.iload_n 3, 1) := by decide +kernel
theorem dX2_mixCommandInto_16 : decode cX2_mixCommandInto 16 = .ok (.iload 6, 2) := by decide +kernel
theorem dX2_mixCommandInto_18 : decode cX2_mixCommandInto 18 = .ok (.invokevirtual 107, 3) := by decide +kernel
theorem dX2_mixCommandInto_21 : decode cX2_mixCommandInto 21 = .ok (.i2l, 1) := by decide +kernel
theorem dX2_mixCommandInto_22 : decode cX2_mixCommandInto 22 = .ok (.invokestatic 99, 3) := by decide +kernel
theorem dX2_mixCommandInto_25 : decode cX2_mixCommandInto 25 = .ok (.lstore 4, 2) := by decide +kernel
theorem dX2_mixCommandInto_27 : decode cX2_mixCommandInto 27 = .ok (.iinc 6 1, 3) := by decide +kernel
theorem dX2_mixCommandInto_30 : decode cX2_mixCommandInto 30 = .ok (.goto (-24), 3) := by decide +kernel
theorem dX2_mixCommandInto_33 : decode cX2_mixCommandInto 33 = .ok (.aload_n 0, 1) := by decide +kernel
theorem dX2_mixCommandInto_34 : decode cX2_mixCommandInto 34 = .ok (.iload_n 3, 1) := by decide +kernel
theorem dX2_mixCommandInto_35 : decode cX2_mixCommandInto 35 = .ok (.invokevirtual 73, 3) := by decide +kernel
theorem dX2_mixCommandInto_38 : decode cX2_mixCommandInto 38 = .ok (.ifCond .ne 42, 3) := by decide +kernel
theorem dX2_mixCommandInto_41 : decode cX2_mixCommandInto 41 = .ok (.iconst 0, 1) := by decide +kernel
theorem dX2_mixCommandInto_42 : decode cX2_mixCommandInto 42 = .ok (.istore 6, 2) := by decide +kernel
theorem dX2_mixCommandInto_44 : decode cX2_mixCommandInto 44 = .ok (.iload 6, 2) := by decide +kernel
theorem dX2_mixCommandInto_46 : decode cX2_mixCommandInto 46 = .ok (.aload_n 0, 1) := by decide +kernel
theorem dX2_mixCommandInto_47 : decode cX2_mixCommandInto 47 = .ok (.iload_n 3, 1) := by decide +kernel
theorem dX2_mixCommandInto_48 : decode cX2_mixCommandInto 48 = .ok (.invokevirtual 60, 3) := by decide +kernel
theorem dX2_mixCommandInto_51 : decode cX2_mixCommandInto 51 = .ok (.if_icmp .ge 29, 3) := by decide +kernel
theorem dX2_mixCommandInto_54 : decode cX2_mixCommandInto 54 = .ok (.lload 4, 2) := by decide +kernel
theorem dX2_mixCommandInto_56 : decode cX2_mixCommandInto 56 = .ok (.aload_n 0, 1) := by decide +kernel
theorem dX2_mixCommandInto_57 : decode cX2_mixCommandInto 57 = .ok (.aload_n 0, 1) := by decide +kernel
theorem dX2_mixCommandInto_58 : decode cX2_mixCommandInto 58 = .ok (.iload_n 3, 1) := by decide +kernel
theorem dX2_mixCommandInto_59 : decode cX2_mixCommandInto 59 = .ok (.invokevirtual 57, 3) := by decide +kernel
theorem dX2_mixCommandInto_62 : decode cX2_mixCommandInto 62 = .ok (.iload 6, 2) := by decide +kernel
theorem dX2_mixCommandInto_64 : decode cX2_mixCommandInto 64 = .ok (.iadd, 1) := by decide +kernel
theorem dX2_mixCommandInto_65 : decode cX2_mixCommandInto 65 = .ok (.invokevirtual 111, 3) := by decide +kernel
theorem dX2_mixCommandInto_68 : decode cX2_mixCommandInto 68 = .ok (.i2l, 1) := by decide +kernel
theorem dX2_mixCommandInto_69 : decode cX2_mixCommandInto 69 = .ok (.invokestatic 99, 3) := by decide +kernel
theorem dX2_mixCommandInto_72 : decode cX2_mixCommandInto 72 = .ok (.lstore 4, 2) := by decide +kernel
theorem dX2_mixCommandInto_74 : decode cX2_mixCommandInto 74 = .ok (.iinc 6 1, 3) := by decide +kernel
theorem dX2_mixCommandInto_77 : decode cX2_mixCommandInto 77 = .ok (.goto (-33), 3) := by decide +kernel
theorem dX2_mixCommandInto_80 : decode cX2_mixCommandInto 80 = .ok (.lload 4, 2) := by decide +kernel
theorem dX2_mixCommandInto_82 : decode cX2_mixCommandInto 82 = .ok (.lreturn, 1) := by decide +kernel
theorem dX3_lengthOf_0 : decode cX3_lengthOf 0 = .ok (.iconst 5, 1) := by decide +kernel
theorem dX3_lengthOf_1 : decode cX3_lengthOf 1 = .ok (.istore_n 1, 1) := by decide +kernel
theorem dX3_lengthOf_2 : decode cX3_lengthOf 2 = .ok (.iconst 0, 1) := by decide +kernel
theorem dX3_lengthOf_3 : decode cX3_lengthOf 3 = .ok (.istore_n 2, 1) := by decide +kernel
theorem dX3_lengthOf_4 : decode cX3_lengthOf 4 = .ok (.iload_n 2, 1) := by decide +kernel
theorem dX3_lengthOf_5 : decode cX3_lengthOf 5 = .ok (.aload_n 0, 1) := by decide +kernel
theorem dX3_lengthOf_6 : decode cX3_lengthOf 6 = .ok (.getfield 9, 3) := by decide +kernel
theorem dX3_lengthOf_9 : decode cX3_lengthOf 9 = .ok (.getfield 15, 3) := by decide +kernel
theorem dX3_lengthOf_12 : decode cX3_lengthOf 12 = .ok (.if_icmp .ge 41, 3) := by decide +kernel
theorem dX3_lengthOf_15 : decode cX3_lengthOf 15 = .ok (.iload_n 1, 1) := by decide +kernel
theorem dX3_lengthOf_16 : decode cX3_lengthOf 16 = .ok (.aload_n 0, 1) := by decide +kernel
theorem dX3_lengthOf_17 : decode cX3_lengthOf 17 = .ok (.getfield 21, 3) := by decide +kernel
theorem dX3_lengthOf_20 : decode cX3_lengthOf 20 = .ok (.aload_n 0, 1) := by decide +kernel
theorem dX3_lengthOf_21 : decode cX3_lengthOf 21 = .ok (.getfield 9, 3) := by decide +kernel
theorem dX3_lengthOf_24 : decode cX3_lengthOf 24 = .ok (.iload_n 2, 1) := by decide +kernel
theorem dX3_lengthOf_25 : decode cX3_lengthOf 25 = .ok (.invokevirtual 25, 3) := by decide +kernel
theorem dX3_lengthOf_28 : decode cX3_lengthOf 28 = .ok (.ifCond .eq 7, 3) := by decide +kernel
theorem dX3_lengthOf_31 : decode cX3_lengthOf 31 = .ok (.iconst 4, 1) := by decide +kernel
theorem dX3_lengthOf_32 : decode cX3_lengthOf 32 = .ok (.goto 13, 3) := by decide +kernel
theorem dX3_lengthOf_35 : decode cX3_lengthOf 35 = .ok (.iconst 3, 1) := by decide +kernel
theorem dX3_lengthOf_36 : decode cX3_lengthOf 36 = .ok (.aload_n 0, 1) := by decide +kernel
theorem dX3_lengthOf_37 : decode cX3_lengthOf 37 = .ok (.getfield 9, 3) := by decide +kernel
theorem dX3_lengthOf_40 : decode cX3_lengthOf 40 = .ok (.iload_n 2, 1) := by decide +kernel
theorem dX3_lengthOf_41 : decode cX3_lengthOf 41 = .ok (.invokevirtual 31, 3) := by decide +kernel
theorem dX3_lengthOf_44 : decode cX3_lengthOf 44 = .ok (.iadd, 1) := by decide +kernel
theorem dX3_lengthOf_45 : decode cX3_lengthOf 45 = .ok (.iadd, 1) := by decide +kernel
theorem dX3_lengthOf_46 : decode cX3_lengthOf 46 = .ok (.istore_n 1, 1) := by decide +kernel
theorem dX3_lengthOf_47 : decode cX3_lengthOf 47 = .ok (.iinc 2 1, 3) := by decide +kernel
theorem dX3_lengthOf_50 : decode cX3_lengthOf 50 = .ok (.goto (-46), 3) := by decide +kernel
theorem dX3_lengthOf_53 : decode cX3_lengthOf 53 = .ok (.iload_n 1, 1) := by decide +kernel
theorem dX3_lengthOf_54 : decode cX3_lengthOf 54 = .ok (.ireturn, 1) := by decide +kernel
theorem dX3_fill_0 : decode cX3_fill 0 = .ok (.aload_n 0, 1) := by decide +kernel
theorem dX3_fill_1 : decode cX3_fill 1 = .ok (.getfield 35, 3) := by decide +kernel
theorem dX3_fill_4 : decode cX3_fill 4 = .ok (.astore_n 1, 1) := by decide +kernel
theorem dX3_fill_5 : decode cX3_fill 5 = .ok (.aload_n 1, 1) := by decide +kernel
theorem dX3_fill_6 : decode cX3_fill 6 = .ok (.iconst 0, 1) := by decide +kernel
theorem dX3_fill_7 : decode cX3_fill 7 = .ok (.invokevirtual 39, 3) := by decide +kernel
theorem dX3_fill_10 : decode cX3_fill 10 = .ok (.aload_n 1, 1) := by decide +kernel
theorem dX3_fill_11 : decode cX3_fill 11 = .ok (.bipush 73, 2) := by decide +kernel
theorem dX3_fill_13 : decode cX3_fill 13 = .ok (.invokevirtual 45, 3) := by decide +kernel
theorem dX3_fill_16 : decode cX3_fill 16 = .ok (.aload_n 1, 1) := by decide +kernel
theorem dX3_fill_17 : decode cX3_fill 17 = .ok (.aload_n 0, 1) := by decide +kernel
theorem dX3_fill_18 : decode cX3_fill 18 = .ok (.getfield 9, 3) := by decide +kernel
theorem dX3_fill_21 : decode cX3_fill 21 = .ok (.getfield 48, 3) := by decide +kernel
theorem dX3_fill_24 : decode cX3_fill 24 = .ok (.invokevirtual 45, 3) := by decide +kernel
theorem dX3_fill_27 : decode cX3_fill 27 = .ok (.aload_n 1, 1) := by decide +kernel
theorem dX3_fill_28 : decode cX3_fill 28 = .ok (.aload_n 0, 1) := by decide +kernel
theorem dX3_fill_29 : decode cX3_fill 29 = .ok (.getfield 9, 3) := by decide +kernel
theorem dX3_fill_32 : decode cX3_fill 32 = .ok (.getfield 51, 3) := by decide +kernel
theorem dX3_fill_35 : decode cX3_fill 35 = .ok (.invokevirtual 45, 3) := by decide +kernel
theorem dX3_fill_38 : decode cX3_fill 38 = .ok (.aload_n 1, 1) := by decide +kernel
theorem dX3_fill_39 : decode cX3_fill 39 = .ok (.aload_n 0, 1) := by decide +kernel
theorem dX3_fill_40 : decode cX3_fill 40 = .ok (.getfield 9, 3) := by decide +kernel
theorem dX3_fill_43 : decode cX3_fill 43 = .ok (.getfield 15, 3) := by decide +kernel
theorem dX3_fill_46 : decode cX3_fill 46 = .ok (.invokevirtual 45, 3) := by decide +kernel
theorem dX3_fill_49 : decode cX3_fill 49 = .ok (.iconst 0, 1) := by decide +kernel
theorem dX3_fill_50 : decode cX3_fill 50 = .ok (.istore_n 2, 1) := by decide +kernel
theorem dX3_fill_51 : decode cX3_fill 51 = .ok (.iload_n 2, 1) := by decide +kernel
theorem dX3_fill_52 : decode cX3_fill 52 = .ok (.aload_n 0, 1) := by decide +kernel
theorem dX3_fill_53 : decode cX3_fill 53 = .ok (.getfield 21, 3) := by decide +kernel
theorem dX3_fill_56 : decode cX3_fill 56 = .ok (.getfield 54, 3) := by decide +kernel
theorem dX3_fill_59 : decode cX3_fill 59 = .ok (.if_icmp .ge 21, 3) := by decide +kernel
theorem dX3_fill_62 : decode cX3_fill 62 = .ok (.aload_n 0, 1) := by decide +kernel
theorem dX3_fill_63 : decode cX3_fill 63 = .ok (.aload_n 0, 1) := by decide +kernel
theorem dX3_fill_64 : decode cX3_fill 64 = .ok (.getfield 21, 3) := by decide +kernel
theorem dX3_fill_67 : decode cX3_fill 67 = .ok (.iload_n 2, 1) := by decide +kernel
theorem dX3_fill_68 : decode cX3_fill 68 = .ok (.invokevirtual 55, 3) := by decide +kernel
theorem dX3_fill_71 : decode cX3_fill 71 = .ok (.invokestatic 58, 3) := by decide +kernel
theorem dX3_fill_74 : decode cX3_fill 74 = .ok (.iinc 2 1, 3) := by decide +kernel
theorem dX3_fill_77 : decode cX3_fill 77 = .ok (.goto (-26), 3) := by decide +kernel
theorem dX3_fill_80 : decode cX3_fill 80 = .ok (.aload_n 1, 1) := by decide +kernel
theorem dX3_fill_81 : decode cX3_fill 81 = .ok (.aload_n 1, 1) := by decide +kernel
theorem dX3_fill_82 : decode cX3_fill 82 = .ok (.invokevirtual 64, 3) := by decide +kernel
theorem dX3_fill_85 : decode cX3_fill 85 = .ok (.sipush 251, 3) := by decide +kernel
theorem dX3_fill_88 : decode cX3_fill 88 = .ok (.irem, 1) := by decide +kernel
theorem dX3_fill_89 : decode cX3_fill 89 = .ok (.invokevirtual 45, 3) := by decide +kernel
theorem dX3_fill_92 : decode cX3_fill 92 = .ok (.return_, 1) := by decide +kernel
theorem dX3_pushCommand_0 : decode cX3_pushCommand 0 = .ok (.aload_n 0, 1) := by decide +kernel
theorem dX3_pushCommand_1 : decode cX3_pushCommand 1 = .ok (.getfield 35, 3) := by decide +kernel
theorem dX3_pushCommand_4 : decode cX3_pushCommand 4 = .ok (.astore_n 2, 1) := by decide +kernel
theorem dX3_pushCommand_5 : decode cX3_pushCommand 5 = .ok (.aload_n 0, 1) := by decide +kernel
theorem dX3_pushCommand_6 : decode cX3_pushCommand 6 = .ok (.getfield 21, 3) := by decide +kernel
theorem dX3_pushCommand_9 : decode cX3_pushCommand 9 = .ok (.aload_n 0, 1) := by decide +kernel
theorem dX3_pushCommand_10 : decode cX3_pushCommand 10 = .ok (.getfield 9, 3) := by decide +kernel
theorem dX3_pushCommand_13 : decode cX3_pushCommand 13 = .ok (.iload_n 1, 1) := by decide +kernel
theorem dX3_pushCommand_14 : decode cX3_pushCommand 14 = .ok (.invokevirtual 25, 3) := by decide +kernel
theorem dX3_pushCommand_17 : decode cX3_pushCommand 17 = .ok (.ifCond .eq 47, 3) := by decide +kernel
theorem dX3_pushCommand_20 : decode cX3_pushCommand 20 = .ok (.aload_n 2, 1) := by decide +kernel
theorem dX3_pushCommand_21 : decode cX3_pushCommand 21 = .ok (.iconst 1, 1) := by decide +kernel
theorem dX3_pushCommand_22 : decode cX3_pushCommand 22 = .ok (.invokevirtual 45, 3) := by decide +kernel
theorem dX3_pushCommand_25 : decode cX3_pushCommand 25 = .ok (.aload_n 2, 1) := by decide +kernel
theorem dX3_pushCommand_26 : decode cX3_pushCommand 26 = .ok (.aload_n 0, 1) := by decide +kernel
theorem dX3_pushCommand_27 : decode cX3_pushCommand 27 = .ok (.getfield 9, 3) := by decide +kernel
theorem dX3_pushCommand_30 : decode cX3_pushCommand 30 = .ok (.iload_n 1, 1) := by decide +kernel
theorem dX3_pushCommand_31 : decode cX3_pushCommand 31 = .ok (.invokevirtual 68, 3) := by decide +kernel
theorem dX3_pushCommand_34 : decode cX3_pushCommand 34 = .ok (.invokevirtual 45, 3) := by decide +kernel
theorem dX3_pushCommand_37 : decode cX3_pushCommand 37 = .ok (.aload_n 2, 1) := by decide +kernel
theorem dX3_pushCommand_38 : decode cX3_pushCommand 38 = .ok (.aload_n 0, 1) := by decide +kernel
theorem dX3_pushCommand_39 : decode cX3_pushCommand 39 = .ok (.getfield 9, 3) := by decide +kernel
theorem dX3_pushCommand_42 : decode cX3_pushCommand 42 = .ok (.iload_n 1, 1) := by decide +kernel
theorem dX3_pushCommand_43 : decode cX3_pushCommand 43 = .ok (.invokevirtual 71, 3) := by decide +kernel
theorem dX3_pushCommand_46 : decode cX3_pushCommand 46 = .ok (.invokevirtual 45, 3) := by decide +kernel
theorem dX3_pushCommand_49 : decode cX3_pushCommand 49 = .ok (.aload_n 2, 1) := by decide +kernel
theorem dX3_pushCommand_50 : decode cX3_pushCommand 50 = .ok (.aload_n 0, 1) := by decide +kernel
theorem dX3_pushCommand_51 : decode cX3_pushCommand 51 = .ok (.getfield 9, 3) := by decide +kernel
theorem dX3_pushCommand_54 : decode cX3_pushCommand 54 = .ok (.iload_n 1, 1) := by decide +kernel
theorem dX3_pushCommand_55 : decode cX3_pushCommand 55 = .ok (.invokevirtual 31, 3) := by decide +kernel
theorem dX3_pushCommand_58 : decode cX3_pushCommand 58 = .ok (.invokevirtual 45, 3) := by decide +kernel
theorem dX3_pushCommand_61 : decode cX3_pushCommand 61 = .ok (.goto 62, 3) := by decide +kernel
theorem dX3_pushCommand_64 : decode cX3_pushCommand 64 = .ok (.aload_n 2, 1) := by decide +kernel
theorem dX3_pushCommand_65 : decode cX3_pushCommand 65 = .ok (.iconst 2, 1) := by decide +kernel
theorem dX3_pushCommand_66 : decode cX3_pushCommand 66 = .ok (.invokevirtual 45, 3) := by decide +kernel
theorem dX3_pushCommand_69 : decode cX3_pushCommand 69 = .ok (.aload_n 2, 1) := by decide +kernel
theorem dX3_pushCommand_70 : decode cX3_pushCommand 70 = .ok (.aload_n 0, 1) := by decide +kernel
theorem dX3_pushCommand_71 : decode cX3_pushCommand 71 = .ok (.getfield 9, 3) := by decide +kernel
theorem dX3_pushCommand_74 : decode cX3_pushCommand 74 = .ok (.iload_n 1, 1) := by decide +kernel
theorem dX3_pushCommand_75 : decode cX3_pushCommand 75 = .ok (.invokevirtual 71, 3) := by decide +kernel
theorem dX3_pushCommand_78 : decode cX3_pushCommand 78 = .ok (.invokevirtual 45, 3) := by decide +kernel
theorem dX3_pushCommand_81 : decode cX3_pushCommand 81 = .ok (.aload_n 2, 1) := by decide +kernel
theorem dX3_pushCommand_82 : decode cX3_pushCommand 82 = .ok (.aload_n 0, 1) := by decide +kernel
theorem dX3_pushCommand_83 : decode cX3_pushCommand 83 = .ok (.getfield 9, 3) := by decide +kernel
theorem dX3_pushCommand_86 : decode cX3_pushCommand 86 = .ok (.iload_n 1, 1) := by decide +kernel
theorem dX3_pushCommand_87 : decode cX3_pushCommand 87 = .ok (.invokevirtual 31, 3) := by decide +kernel
theorem dX3_pushCommand_90 : decode cX3_pushCommand 90 = .ok (.invokevirtual 45, 3) := by decide +kernel
theorem dX3_pushCommand_93 : decode cX3_pushCommand 93 = .ok (.iconst 0, 1) := by decide +kernel
theorem dX3_pushCommand_94 : decode cX3_pushCommand 94 = .ok (.istore_n 3, 1) := by decide +kernel
theorem dX3_pushCommand_95 : decode cX3_pushCommand 95 = .ok (.iload_n 3, 1) := by decide +kernel
theorem dX3_pushCommand_96 : decode cX3_pushCommand 96 = .ok (.aload_n 0, 1) := by decide +kernel
theorem dX3_pushCommand_97 : decode cX3_pushCommand 97 = .ok (.getfield 9, 3) := by decide +kernel
theorem dX3_pushCommand_100 : decode cX3_pushCommand 100 = .ok (.iload_n 1, 1) := by decide +kernel
theorem dX3_pushCommand_101 : decode cX3_pushCommand 101 = .ok (.invokevirtual 31, 3) := by decide +kernel
theorem dX3_pushCommand_104 : decode cX3_pushCommand 104 = .ok (.if_icmp .ge 19, 3) := by decide +kernel
theorem dX3_pushCommand_107 : decode cX3_pushCommand 107 = .ok (.aload_n 2, 1) := by decide +kernel
theorem dX3_pushCommand_108 : decode cX3_pushCommand 108 = .ok (.aload_n 0, 1) := by decide +kernel
theorem dX3_pushCommand_109 : decode cX3_pushCommand 109 = .ok (.iload_n 1, 1) := by decide +kernel
theorem dX3_pushCommand_110 : decode cX3_pushCommand 110 = .ok (.iload_n 3, 1) := by decide +kernel
theorem dX3_pushCommand_111 : decode cX3_pushCommand 111 = .ok (.invokevirtual 74, 3) := by decide +kernel
theorem dX3_pushCommand_114 : decode cX3_pushCommand 114 = .ok (.invokevirtual 45, 3) := by decide +kernel
theorem dX3_pushCommand_117 : decode cX3_pushCommand 117 = .ok (.iinc 3 1, 3) := by decide +kernel
theorem dX3_pushCommand_120 : decode cX3_pushCommand 120 = .ok (.goto (-25), 3) := by decide +kernel
theorem dX3_pushCommand_123 : decode cX3_pushCommand 123 = .ok (.return_, 1) := by decide +kernel
theorem dX4_init_0 : decode cX4_init 0 = .ok (.aload_n 0, 1) := by decide +kernel
theorem dX4_init_1 : decode cX4_init 1 = .ok (.invokespecial 3, 3) := by decide +kernel
theorem dX4_init_4 : decode cX4_init 4 = .ok (.aload_n 0, 1) := by decide +kernel
theorem dX4_init_5 : decode cX4_init 5 = .ok (.iconst 4, 1) := by decide +kernel
theorem dX4_init_6 : decode cX4_init 6 = .ok (.anewarray 9, 3) := by decide +kernel
theorem dX4_init_9 : decode cX4_init 9 = .ok (.putfield 11, 3) := by decide +kernel
theorem dX4_init_12 : decode cX4_init 12 = .ok (.iconst 0, 1) := by decide +kernel
theorem dX4_init_13 : decode cX4_init 13 = .ok (.istore_n 1, 1) := by decide +kernel
theorem dX4_init_14 : decode cX4_init 14 = .ok (.iload_n 1, 1) := by decide +kernel
theorem dX4_init_15 : decode cX4_init 15 = .ok (.iconst 4, 1) := by decide +kernel
theorem dX4_init_16 : decode cX4_init 16 = .ok (.if_icmp .ge 22, 3) := by decide +kernel
theorem dX4_init_19 : decode cX4_init 19 = .ok (.aload_n 0, 1) := by decide +kernel
theorem dX4_init_20 : decode cX4_init 20 = .ok (.getfield 11, 3) := by decide +kernel
theorem dX4_init_23 : decode cX4_init 23 = .ok (.iload_n 1, 1) := by decide +kernel
theorem dX4_init_24 : decode cX4_init 24 = .ok (.new 9, 3) := by decide +kernel
theorem dX4_init_27 : decode cX4_init 27 = .ok (.dup, 1) := by decide +kernel
theorem dX4_init_28 : decode cX4_init 28 = .ok (.invokespecial 17, 3) := by decide +kernel
theorem dX4_init_31 : decode cX4_init 31 = .ok (.aastore, 1) := by decide +kernel
theorem dX4_init_32 : decode cX4_init 32 = .ok (.iinc 1 1, 3) := by decide +kernel
theorem dX4_init_35 : decode cX4_init 35 = .ok (.goto (-21), 3) := by decide +kernel
theorem dX4_init_38 : decode cX4_init 38 = .ok (.return_, 1) := by decide +kernel
theorem dX4_save_0 : decode cX4_save 0 = .ok (.aload_n 0, 1) := by decide +kernel
theorem dX4_save_1 : decode cX4_save 1 = .ok (.getfield 11, 3) := by decide +kernel
theorem dX4_save_4 : decode cX4_save 4 = .ok (.aload_n 0, 1) := by decide +kernel
theorem dX4_save_5 : decode cX4_save 5 = .ok (.getfield 18, 3) := by decide +kernel
theorem dX4_save_8 : decode cX4_save 8 = .ok (.aaload, 1) := by decide +kernel
theorem dX4_save_9 : decode cX4_save 9 = .ok (.aload_n 1, 1) := by decide +kernel
theorem dX4_save_10 : decode cX4_save 10 = .ok (.invokevirtual 22, 3) := by decide +kernel
theorem dX4_save_13 : decode cX4_save 13 = .ok (.aload_n 0, 1) := by decide +kernel
theorem dX4_save_14 : decode cX4_save 14 = .ok (.aload_n 0, 1) := by decide +kernel
theorem dX4_save_15 : decode cX4_save 15 = .ok (.getfield 18, 3) := by decide +kernel
theorem dX4_save_18 : decode cX4_save 18 = .ok (.iconst 1, 1) := by decide +kernel
theorem dX4_save_19 : decode cX4_save 19 = .ok (.iadd, 1) := by decide +kernel
theorem dX4_save_20 : decode cX4_save 20 = .ok (.iconst 4, 1) := by decide +kernel
theorem dX4_save_21 : decode cX4_save 21 = .ok (.irem, 1) := by decide +kernel
theorem dX4_save_22 : decode cX4_save 22 = .ok (.putfield 18, 3) := by decide +kernel
theorem dX4_save_25 : decode cX4_save 25 = .ok (.aload_n 0, 1) := by decide +kernel
theorem dX4_save_26 : decode cX4_save 26 = .ok (.aload_n 0, 1) := by decide +kernel
theorem dX4_save_27 : decode cX4_save 27 = .ok (.getfield 26, 3) := by decide +kernel
theorem dX4_save_30 : decode cX4_save 30 = .ok (.iconst 1, 1) := by decide +kernel
theorem dX4_save_31 : decode cX4_save 31 = .ok (.iadd, 1) := by decide +kernel
theorem dX4_save_32 : decode cX4_save 32 = .ok (.iconst 4, 1) := by decide +kernel
theorem dX4_save_33 : decode cX4_save 33 = .ok (.invokestatic 29, 3) := by decide +kernel
theorem dX4_save_36 : decode cX4_save 36 = .ok (.putfield 26, 3) := by decide +kernel
theorem dX4_save_39 : decode cX4_save 39 = .ok (.return_, 1) := by decide +kernel
theorem dX4_restore_0 : decode cX4_restore 0 = .ok (.aload_n 0, 1) := by decide +kernel
theorem dX4_restore_1 : decode cX4_restore 1 = .ok (.aload_n 0, 1) := by decide +kernel
theorem dX4_restore_2 : decode cX4_restore 2 = .ok (.getfield 18, 3) := by decide +kernel
theorem dX4_restore_5 : decode cX4_restore 5 = .ok (.iconst 4, 1) := by decide +kernel
theorem dX4_restore_6 : decode cX4_restore 6 = .ok (.iadd, 1) := by decide +kernel
theorem dX4_restore_7 : decode cX4_restore 7 = .ok (.iconst 1, 1) := by decide +kernel
theorem dX4_restore_8 : decode cX4_restore 8 = .ok (.isub, 1) := by decide +kernel
theorem dX4_restore_9 : decode cX4_restore 9 = .ok (.iconst 4, 1) := by decide +kernel
theorem dX4_restore_10 : decode cX4_restore 10 = .ok (.irem, 1) := by decide +kernel
theorem dX4_restore_11 : decode cX4_restore 11 = .ok (.putfield 18, 3) := by decide +kernel
theorem dX4_restore_14 : decode cX4_restore 14 = .ok (.aload_n 1, 1) := by decide +kernel
theorem dX4_restore_15 : decode cX4_restore 15 = .ok (.aload_n 0, 1) := by decide +kernel
theorem dX4_restore_16 : decode cX4_restore 16 = .ok (.getfield 11, 3) := by decide +kernel
theorem dX4_restore_19 : decode cX4_restore 19 = .ok (.aload_n 0, 1) := by decide +kernel
theorem dX4_restore_20 : decode cX4_restore 20 = .ok (.getfield 18, 3) := by decide +kernel
theorem dX4_restore_23 : decode cX4_restore 23 = .ok (.aaload, 1) := by decide +kernel
theorem dX4_restore_24 : decode cX4_restore 24 = .ok (.invokevirtual 22, 3) := by decide +kernel
theorem dX4_restore_27 : decode cX4_restore 27 = .ok (.aload_n 0, 1) := by decide +kernel
theorem dX4_restore_28 : decode cX4_restore 28 = .ok (.dup, 1) := by decide +kernel
theorem dX4_restore_29 : decode cX4_restore 29 = .ok (.getfield 26, 3) := by decide +kernel
theorem dX4_restore_32 : decode cX4_restore 32 = .ok (.iconst 1, 1) := by decide +kernel
theorem dX4_restore_33 : decode cX4_restore 33 = .ok (.isub, 1) := by decide +kernel
theorem dX4_restore_34 : decode cX4_restore 34 = .ok (.putfield 26, 3) := by decide +kernel
theorem dX4_restore_37 : decode cX4_restore 37 = .ok (.return_, 1) := by decide +kernel
theorem dX5_of_0 : decode cX5_of 0 = .ok (.aload_n 0, 1) := by decide +kernel
theorem dX5_of_1 : decode cX5_of 1 = .ok (.aload_n 0, 1) := by decide +kernel
theorem dX5_of_2 : decode cX5_of 2 = .ok (.getfield 9, 3) := by decide +kernel
theorem dX5_of_5 : decode cX5_of 5 = .ok (.invokestatic 15, 3) := by decide +kernel
theorem dX5_of_8 : decode cX5_of 8 = .ok (.istore_n 1, 1) := by decide +kernel
theorem dX5_of_9 : decode cX5_of 9 = .ok (.iconst 0, 1) := by decide +kernel
theorem dX5_of_10 : decode cX5_of 10 = .ok (.istore_n 2, 1) := by decide +kernel
theorem dX5_of_11 : decode cX5_of 11 = .ok (.iconst 0, 1) := by decide +kernel
theorem dX5_of_12 : decode cX5_of 12 = .ok (.istore_n 3, 1) := by decide +kernel
theorem dX5_of_13 : decode cX5_of 13 = .ok (.iload_n 3, 1) := by decide +kernel
theorem dX5_of_14 : decode cX5_of 14 = .ok (.aload_n 0, 1) := by decide +kernel
theorem dX5_of_15 : decode cX5_of 15 = .ok (.getfield 21, 3) := by decide +kernel
theorem dX5_of_18 : decode cX5_of 18 = .ok (.if_icmp .ge 29, 3) := by decide +kernel
theorem dX5_of_21 : decode cX5_of 21 = .ok (.iload_n 2, 1) := by decide +kernel
theorem dX5_of_22 : decode cX5_of 22 = .ok (.iload_n 1, 1) := by decide +kernel
theorem dX5_of_23 : decode cX5_of 23 = .ok (.iload_n 3, 1) := by decide +kernel
theorem dX5_of_24 : decode cX5_of 24 = .ok (.invokestatic 24, 3) := by decide +kernel
theorem dX5_of_27 : decode cX5_of 27 = .ok (.ifCond .eq 11, 3) := by decide +kernel
theorem dX5_of_30 : decode cX5_of 30 = .ok (.aload_n 0, 1) := by decide +kernel
theorem dX5_of_31 : decode cX5_of 31 = .ok (.iload_n 3, 1) := by decide +kernel
theorem dX5_of_32 : decode cX5_of 32 = .ok (.invokevirtual 28, 3) := by decide +kernel
theorem dX5_of_35 : decode cX5_of 35 = .ok (.goto 4, 3) := by decide +kernel
theorem dX5_of_38 : decode cX5_of 38 = .ok (.iconst 0, 1) := by decide +kernel
theorem dX5_of_39 : decode cX5_of 39 = .ok (.iadd, 1) := by decide +kernel
theorem dX5_of_40 : decode cX5_of 40 = .ok (.istore_n 2, 1) := by decide +kernel
theorem dX5_of_41 : decode cX5_of 41 = .ok (.iinc 3 1, 3) := by decide +kernel
theorem dX5_of_44 : decode cX5_of 44 = .ok (.goto (-31), 3) := by decide +kernel
theorem dX5_of_47 : decode cX5_of 47 = .ok (.aload_n 0, 1) := by decide +kernel
theorem dX5_of_48 : decode cX5_of 48 = .ok (.iload_n 1, 1) := by decide +kernel
theorem dX5_of_49 : decode cX5_of 49 = .ok (.iconst 0, 1) := by decide +kernel
theorem dX5_of_50 : decode cX5_of 50 = .ok (.invokestatic 32, 3) := by decide +kernel
theorem dX5_of_53 : decode cX5_of 53 = .ok (.iload_n 1, 1) := by decide +kernel
theorem dX5_of_54 : decode cX5_of 54 = .ok (.iconst 0, 1) := by decide +kernel
theorem dX5_of_55 : decode cX5_of 55 = .ok (.iconst 0, 1) := by decide +kernel
theorem dX5_of_56 : decode cX5_of 56 = .ok (.iload_n 2, 1) := by decide +kernel
theorem dX5_of_57 : decode cX5_of 57 = .ok (.invokestatic 36, 3) := by decide +kernel
theorem dX5_of_60 : decode cX5_of 60 = .ok (.ireturn, 1) := by decide +kernel
theorem dX5_cyclicPart_0 : decode cX5_cyclicPart 0 = .ok (.iload_n 1, 1) := by decide +kernel
theorem dX5_cyclicPart_1 : decode cX5_cyclicPart 1 = .ok (.istore_n 2, 1) := by decide +kernel
theorem dX5_cyclicPart_2 : decode cX5_cyclicPart 2 = .ok (.iconst 0, 1) := by decide +kernel
theorem dX5_cyclicPart_3 : decode cX5_cyclicPart 3 = .ok (.istore_n 3, 1) := by decide +kernel
theorem dX5_cyclicPart_4 : decode cX5_cyclicPart 4 = .ok (.iload_n 3, 1) := by decide +kernel
theorem dX5_cyclicPart_5 : decode cX5_cyclicPart 5 = .ok (.bipush 30, 2) := by decide +kernel
theorem dX5_cyclicPart_7 : decode cX5_cyclicPart 7 = .ok (.if_icmp .ge 31, 3) := by decide +kernel
theorem dX5_cyclicPart_10 : decode cX5_cyclicPart 10 = .ok (.aload_n 0, 1) := by decide +kernel
theorem dX5_cyclicPart_11 : decode cX5_cyclicPart 11 = .ok (.iload_n 2, 1) := by decide +kernel
theorem dX5_cyclicPart_12 : decode cX5_cyclicPart 12 = .ok (.invokevirtual 40, 3) := by decide +kernel
theorem dX5_cyclicPart_15 : decode cX5_cyclicPart 15 = .ok (.istore 4, 2) := by decide +kernel
theorem dX5_cyclicPart_17 : decode cX5_cyclicPart 17 = .ok (.iload 4, 2) := by decide +kernel
theorem dX5_cyclicPart_19 : decode cX5_cyclicPart 19 = .ok (.iconst (-1), 1) := by decide +kernel
theorem dX5_cyclicPart_20 : decode cX5_cyclicPart 20 = .ok (.if_icmp .ne 5, 3) := by decide +kernel
theorem dX5_cyclicPart_23 : decode cX5_cyclicPart 23 = .ok (.iload_n 2, 1) := by decide +kernel
theorem dX5_cyclicPart_24 : decode cX5_cyclicPart 24 = .ok (.ireturn, 1) := by decide +kernel
theorem dX5_cyclicPart_25 : decode cX5_cyclicPart 25 = .ok (.iload_n 2, 1) := by decide +kernel
theorem dX5_cyclicPart_26 : decode cX5_cyclicPart 26 = .ok (.iload 4, 2) := by decide +kernel
theorem dX5_cyclicPart_28 : decode cX5_cyclicPart 28 = .ok (.invokestatic 43, 3) := by decide +kernel
theorem dX5_cyclicPart_31 : decode cX5_cyclicPart 31 = .ok (.istore_n 2, 1) := by decide +kernel
theorem dX5_cyclicPart_32 : decode cX5_cyclicPart 32 = .ok (.iinc 3 1, 3) := by decide +kernel
theorem dX5_cyclicPart_35 : decode cX5_cyclicPart 35 = .ok (.goto (-31), 3) := by decide +kernel
theorem dX5_cyclicPart_38 : decode cX5_cyclicPart 38 = .ok (.iload_n 2, 1) := by decide +kernel
theorem dX5_cyclicPart_39 : decode cX5_cyclicPart 39 = .ok (.ireturn, 1) := by decide +kernel
theorem dX5_nextOf_0 : decode cX5_nextOf 0 = .ok (.iload_n 1, 1) := by decide +kernel
theorem dX5_nextOf_1 : decode cX5_nextOf 1 = .ok (.istore_n 2, 1) := by decide +kernel
theorem dX5_nextOf_2 : decode cX5_nextOf 2 = .ok (.iload_n 2, 1) := by decide +kernel
theorem dX5_nextOf_3 : decode cX5_nextOf 3 = .ok (.bipush 30, 2) := by decide +kernel
theorem dX5_nextOf_5 : decode cX5_nextOf 5 = .ok (.if_icmp .ge 19, 3) := by decide +kernel
theorem dX5_nextOf_8 : decode cX5_nextOf 8 = .ok (.iload_n 0, 1) := by decide +kernel
theorem dX5_nextOf_9 : decode cX5_nextOf 9 = .ok (.iload_n 2, 1) := by decide +kernel
theorem dX5_nextOf_10 : decode cX5_nextOf 10 = .ok (.invokestatic 24, 3) := by decide +kernel
theorem dX5_nextOf_13 : decode cX5_nextOf 13 = .ok (.ifCond .eq 5, 3) := by decide +kernel
theorem dX5_nextOf_16 : decode cX5_nextOf 16 = .ok (.iload_n 2, 1) := by decide +kernel
theorem dX5_nextOf_17 : decode cX5_nextOf 17 = .ok (.ireturn, 1) := by decide +kernel
theorem dX5_nextOf_18 : decode cX5_nextOf 18 = .ok (.iinc 2 1, 3) := by decide +kernel
theorem dX5_nextOf_21 : decode cX5_nextOf 21 = .ok (.goto (-19), 3) := by decide +kernel
theorem dX5_nextOf_24 : decode cX5_nextOf 24 = .ok (.bipush 30, 2) := by decide +kernel
theorem dX5_nextOf_26 : decode cX5_nextOf 26 = .ok (.ireturn, 1) := by decide +kernel
theorem dX5_search_0 : decode cX5_search 0 = .ok (.iload 4, 2) := by decide +kernel
theorem dX5_search_2 : decode cX5_search 2 = .ok (.iload 5, 2) := by decide +kernel
theorem dX5_search_4 : decode cX5_search 4 = .ok (.if_icmp .lt 6, 3) := by decide +kernel
theorem dX5_search_7 : decode cX5_search 7 = .ok (.iload 5, 2) := by decide +kernel
theorem dX5_search_9 : decode cX5_search 9 = .ok (.ireturn, 1) := by decide +kernel
theorem dX5_search_10 : decode cX5_search 10 = .ok (.iload_n 1, 1) := by decide +kernel
theorem dX5_search_11 : decode cX5_search 11 = .ok (.bipush 30, 2) := by decide +kernel
theorem dX5_search_13 : decode cX5_search 13 = .ok (.if_icmp .lt 6, 3) := by decide +kernel
theorem dX5_search_16 : decode cX5_search 16 = .ok (.iload 4, 2) := by decide +kernel
theorem dX5_search_18 : decode cX5_search 18 = .ok (.ireturn, 1) := by decide +kernel
theorem dX5_search_19 : decode cX5_search 19 = .ok (.iload_n 2, 1) := by decide +kernel
theorem dX5_search_20 : decode cX5_search 20 = .ok (.iload_n 1, 1) := by decide +kernel
theorem dX5_search_21 : decode cX5_search 21 = .ok (.iconst 1, 1) := by decide +kernel
theorem dX5_search_22 : decode cX5_search 22 = .ok (.iadd, 1) := by decide +kernel
theorem dX5_search_23 : decode cX5_search 23 = .ok (.invokestatic 32, 3) := by decide +kernel
theorem dX5_search_26 : decode cX5_search 26 = .ok (.istore 6, 2) := by decide +kernel
theorem dX5_search_28 : decode cX5_search 28 = .ok (.iload 5, 2) := by decide +kernel
theorem dX5_search_30 : decode cX5_search 30 = .ok (.istore 7, 2) := by decide +kernel
theorem dX5_search_32 : decode cX5_search 32 = .ok (.iload_n 3, 1) := by decide +kernel
theorem dX5_search_33 : decode cX5_search 33 = .ok (.iconst 1, 1) := by decide +kernel
theorem dX5_search_34 : decode cX5_search 34 = .ok (.iload_n 1, 1) := by decide +kernel
theorem dX5_search_35 : decode cX5_search 35 = .ok (.ishl, 1) := by decide +kernel
theorem dX5_search_36 : decode cX5_search 36 = .ok (.ior, 1) := by decide +kernel
theorem dX5_search_37 : decode cX5_search 37 = .ok (.istore 8, 2) := by decide +kernel
theorem dX5_search_39 : decode cX5_search 39 = .ok (.aload_n 0, 1) := by decide +kernel
theorem dX5_search_40 : decode cX5_search 40 = .ok (.iload 8, 2) := by decide +kernel
theorem dX5_search_42 : decode cX5_search 42 = .ok (.invokestatic 15, 3) := by decide +kernel
theorem dX5_search_45 : decode cX5_search 45 = .ok (.ifCond .ne 18, 3) := by decide +kernel
theorem dX5_search_48 : decode cX5_search 48 = .ok (.aload_n 0, 1) := by decide +kernel
theorem dX5_search_49 : decode cX5_search 49 = .ok (.iload 6, 2) := by decide +kernel
theorem dX5_search_51 : decode cX5_search 51 = .ok (.iload_n 2, 1) := by decide +kernel
theorem dX5_search_52 : decode cX5_search 52 = .ok (.iload 8, 2) := by decide +kernel
theorem dX5_search_54 : decode cX5_search 54 = .ok (.iload 4, 2) := by decide +kernel
theorem dX5_search_56 : decode cX5_search 56 = .ok (.iload 7, 2) := by decide +kernel
theorem dX5_search_58 : decode cX5_search 58 = .ok (.invokestatic 36, 3) := by decide +kernel
theorem dX5_search_61 : decode cX5_search 61 = .ok (.istore 7, 2) := by decide +kernel
theorem dX5_search_63 : decode cX5_search 63 = .ok (.aload_n 0, 1) := by decide +kernel
theorem dX5_search_64 : decode cX5_search 64 = .ok (.iload 6, 2) := by decide +kernel
theorem dX5_search_66 : decode cX5_search 66 = .ok (.iload_n 2, 1) := by decide +kernel
theorem dX5_search_67 : decode cX5_search 67 = .ok (.iload_n 3, 1) := by decide +kernel
theorem dX5_search_68 : decode cX5_search 68 = .ok (.iload 4, 2) := by decide +kernel
theorem dX5_search_70 : decode cX5_search 70 = .ok (.aload_n 0, 1) := by decide +kernel
theorem dX5_search_71 : decode cX5_search 71 = .ok (.iload_n 1, 1) := by decide +kernel
theorem dX5_search_72 : decode cX5_search 72 = .ok (.invokevirtual 28, 3) := by decide +kernel
theorem dX5_search_75 : decode cX5_search 75 = .ok (.iadd, 1) := by decide +kernel
theorem dX5_search_76 : decode cX5_search 76 = .ok (.iload 7, 2) := by decide +kernel
theorem dX5_search_78 : decode cX5_search 78 = .ok (.invokestatic 36, 3) := by decide +kernel
theorem dX5_search_81 : decode cX5_search 81 = .ok (.ireturn, 1) := by decide +kernel
theorem dX6_fill_0 : decode cX6_fill 0 = .ok (.aload_n 0, 1) := by decide +kernel
theorem dX6_fill_1 : decode cX6_fill 1 = .ok (.aload_n 1, 1) := by decide +kernel
theorem dX6_fill_2 : decode cX6_fill 2 = .ok (.getfield 9, 3) := by decide +kernel
theorem dX6_fill_5 : decode cX6_fill 5 = .ok (.aload_n 2, 1) := by decide +kernel
theorem dX6_fill_6 : decode cX6_fill 6 = .ok (.getfield 9, 3) := by decide +kernel
theorem dX6_fill_9 : decode cX6_fill 9 = .ok (.invokevirtual 15, 3) := by decide +kernel
theorem dX6_fill_12 : decode cX6_fill 12 = .ok (.iconst 0, 1) := by decide +kernel
theorem dX6_fill_13 : decode cX6_fill 13 = .ok (.istore_n 3, 1) := by decide +kernel
theorem dX6_fill_14 : decode cX6_fill 14 = .ok (.iconst 0, 1) := by decide +kernel
theorem dX6_fill_15 : decode cX6_fill 15 = .ok (.istore 4, 2) := by decide +kernel
theorem dX6_fill_17 : decode cX6_fill 17 = .ok (.iload 4, 2) := by decide +kernel
theorem dX6_fill_19 : decode cX6_fill 19 = .ok (.aload_n 2, 1) := by decide +kernel
theorem dX6_fill_20 : decode cX6_fill 20 = .ok (.getfield 9, 3) := by decide +kernel
theorem dX6_fill_23 : decode cX6_fill 23 = .ok (.if_icmp .ge 82, 3) := by decide +kernel
theorem dX6_fill_26 : decode cX6_fill 26 = .ok (.aload_n 0, 1) := by decide +kernel
theorem dX6_fill_27 : decode cX6_fill 27 = .ok (.invokevirtual 21, 3) := by decide +kernel
theorem dX6_fill_30 : decode cX6_fill 30 = .ok (.ifCond .eq 13, 3) := by decide +kernel
theorem dX6_fill_33 : decode cX6_fill 33 = .ok (.aload_n 1, 1) := by decide +kernel
theorem dX6_fill_34 : decode cX6_fill 34 = .ok (.aload_n 2, 1) := by decide +kernel
theorem dX6_fill_35 : decode cX6_fill 35 = .ok (.iload 4, 2) := by decide +kernel
theorem dX6_fill_37 : decode cX6_fill 37 = .ok (.invokestatic 25, 3) := by decide +kernel
theorem dX6_fill_40 : decode cX6_fill 40 = .ok (.goto 4, 3) := by decide +kernel
theorem dX6_fill_43 : decode cX6_fill 43 = .ok (.iconst (-1), 1) := by decide +kernel
theorem dX6_fill_44 : decode cX6_fill 44 = .ok (.istore 5, 2) := by decide +kernel
theorem dX6_fill_46 : decode cX6_fill 46 = .ok (.iload 5, 2) := by decide +kernel
theorem dX6_fill_48 : decode cX6_fill 48 = .ok (.iconst (-1), 1) := by decide +kernel
theorem dX6_fill_49 : decode cX6_fill 49 = .ok (.if_icmp .ne 9, 3) := by decide +kernel
theorem dX6_fill_52 : decode cX6_fill 52 = .ok (.iinc 4 1, 3) := by decide +kernel
theorem dX6_fill_55 : decode cX6_fill 55 = .ok (.goto 47, 3) := by decide +kernel
theorem dX6_fill_58 : decode cX6_fill 58 = .ok (.aload_n 1, 1) := by decide +kernel
theorem dX6_fill_59 : decode cX6_fill 59 = .ok (.iload 5, 2) := by decide +kernel
theorem dX6_fill_61 : decode cX6_fill 61 = .ok (.aload_n 2, 1) := by decide +kernel
theorem dX6_fill_62 : decode cX6_fill 62 = .ok (.iload 4, 2) := by decide +kernel
theorem dX6_fill_64 : decode cX6_fill 64 = .ok (.invokevirtual 31, 3) := by decide +kernel
theorem dX6_fill_67 : decode cX6_fill 67 = .ok (.istore 6, 2) := by decide +kernel
theorem dX6_fill_69 : decode cX6_fill 69 = .ok (.aload_n 0, 1) := by decide +kernel
theorem dX6_fill_70 : decode cX6_fill 70 = .ok (.aload_n 2, 1) := by decide +kernel
theorem dX6_fill_71 : decode cX6_fill 71 = .ok (.iload_n 3, 1) := by decide +kernel
theorem dX6_fill_72 : decode cX6_fill 72 = .ok (.iload 4, 2) := by decide +kernel
theorem dX6_fill_74 : decode cX6_fill 74 = .ok (.invokestatic 35, 3) := by decide +kernel
theorem dX6_fill_77 : decode cX6_fill 77 = .ok (.aload_n 0, 1) := by decide +kernel
theorem dX6_fill_78 : decode cX6_fill 78 = .ok (.iconst 1, 1) := by decide +kernel
theorem dX6_fill_79 : decode cX6_fill 79 = .ok (.iload 5, 2) := by decide +kernel
theorem dX6_fill_81 : decode cX6_fill 81 = .ok (.iload 4, 2) := by decide +kernel
theorem dX6_fill_83 : decode cX6_fill 83 = .ok (.iload 6, 2) := by decide +kernel
theorem dX6_fill_85 : decode cX6_fill 85 = .ok (.invokevirtual 39, 3) := by decide +kernel
theorem dX6_fill_88 : decode cX6_fill 88 = .ok (.iload 4, 2) := by decide +kernel
theorem dX6_fill_90 : decode cX6_fill 90 = .ok (.iconst 1, 1) := by decide +kernel
theorem dX6_fill_91 : decode cX6_fill 91 = .ok (.iload 6, 2) := by decide +kernel
theorem dX6_fill_93 : decode cX6_fill 93 = .ok (.invokestatic 43, 3) := by decide +kernel
theorem dX6_fill_96 : decode cX6_fill 96 = .ok (.iadd, 1) := by decide +kernel
theorem dX6_fill_97 : decode cX6_fill 97 = .ok (.istore 4, 2) := by decide +kernel
theorem dX6_fill_99 : decode cX6_fill 99 = .ok (.iload 4, 2) := by decide +kernel
theorem dX6_fill_101 : decode cX6_fill 101 = .ok (.istore_n 3, 1) := by decide +kernel
theorem dX6_fill_102 : decode cX6_fill 102 = .ok (.goto (-85), 3) := by decide +kernel
theorem dX6_fill_105 : decode cX6_fill 105 = .ok (.aload_n 0, 1) := by decide +kernel
theorem dX6_fill_106 : decode cX6_fill 106 = .ok (.aload_n 2, 1) := by decide +kernel
theorem dX6_fill_107 : decode cX6_fill 107 = .ok (.iload_n 3, 1) := by decide +kernel
theorem dX6_fill_108 : decode cX6_fill 108 = .ok (.aload_n 2, 1) := by decide +kernel
theorem dX6_fill_109 : decode cX6_fill 109 = .ok (.getfield 9, 3) := by decide +kernel
theorem dX6_fill_112 : decode cX6_fill 112 = .ok (.invokestatic 35, 3) := by decide +kernel
theorem dX6_fill_115 : decode cX6_fill 115 = .ok (.return_, 1) := by decide +kernel
theorem dX6_longestMatch_0 : decode cX6_longestMatch 0 = .ok (.iconst (-1), 1) := by decide +kernel
theorem dX6_longestMatch_1 : decode cX6_longestMatch 1 = .ok (.istore_n 3, 1) := by decide +kernel
theorem dX6_longestMatch_2 : decode cX6_longestMatch 2 = .ok (.iconst 3, 1) := by decide +kernel
theorem dX6_longestMatch_3 : decode cX6_longestMatch 3 = .ok (.istore 4, 2) := by decide +kernel
theorem dX6_longestMatch_5 : decode cX6_longestMatch 5 = .ok (.iconst 0, 1) := by decide +kernel
theorem dX6_longestMatch_6 : decode cX6_longestMatch 6 = .ok (.istore 5, 2) := by decide +kernel
theorem dX6_longestMatch_8 : decode cX6_longestMatch 8 = .ok (.iload 5, 2) := by decide +kernel
theorem dX6_longestMatch_10 : decode cX6_longestMatch 10 = .ok (.aload_n 0, 1) := by decide +kernel
theorem dX6_longestMatch_11 : decode cX6_longestMatch 11 = .ok (.getfield 9, 3) := by decide +kernel
theorem dX6_longestMatch_14 : decode cX6_longestMatch 14 = .ok (.if_icmp .ge 33, 3) := by decide +kernel
theorem dX6_longestMatch_17 : decode cX6_longestMatch 17 = .ok (.aload_n 0, 1) := by decide +kernel
theorem dX6_longestMatch_18 : decode cX6_longestMatch 18 = .ok (.iload 5, 2) := by decide +kernel
theorem dX6_longestMatch_20 : decode cX6_longestMatch 20 = .ok (.aload_n 1, 1) := by decide +kernel
theorem dX6_longestMatch_21 : decode cX6_longestMatch 21 = .ok (.iload_n 2, 1) := by decide +kernel
theorem dX6_longestMatch_22 : decode cX6_longestMatch 22 = .ok (.invokevirtual 31, 3) := by decide +kernel
theorem dX6_longestMatch_25 : decode cX6_longestMatch 25 = .ok (.istore 6, 2) := by decide +kernel
theorem dX6_longestMatch_27 : decode cX6_longestMatch 27 = .ok (.iload 6, 2) := by decide +kernel
theorem dX6_longestMatch_29 : decode cX6_longestMatch 29 = .ok (.iload 4, 2) := by decide +kernel
theorem dX6_longestMatch_31 : decode cX6_longestMatch 31 = .ok (.if_icmp .le 10, 3) := by decide +kernel
theorem dX6_longestMatch_34 : decode cX6_longestMatch 34 = .ok (.iload 6, 2) := by decide +kernel
theorem dX6_longestMatch_36 : decode cX6_longestMatch 36 = .ok (.istore 4, 2) := by decide +kernel
theorem dX6_longestMatch_38 : decode cX6_longestMatch 38 = .ok (.iload 5, 2) := by decide +kernel
theorem dX6_longestMatch_40 : decode cX6_longestMatch 40 = .ok (.istore_n 3, 1) := by decide +kernel
theorem dX6_longestMatch_41 : decode cX6_longestMatch 41 = .ok (.iinc 5 1, 3) := by decide +kernel
theorem dX6_longestMatch_44 : decode cX6_longestMatch 44 = .ok (.goto (-36), 3) := by decide +kernel
theorem dX6_longestMatch_47 : decode cX6_longestMatch 47 = .ok (.iload_n 3, 1) := by decide +kernel
theorem dX6_longestMatch_48 : decode cX6_longestMatch 48 = .ok (.ireturn, 1) := by decide +kernel
theorem dX6_pushPending_0 : decode cX6_pushPending 0 = .ok (.iload_n 2, 1) := by decide +kernel
theorem dX6_pushPending_1 : decode cX6_pushPending 1 = .ok (.iload_n 3, 1) := by decide +kernel
theorem dX6_pushPending_2 : decode cX6_pushPending 2 = .ok (.if_icmp .ge 40, 3) := by decide +kernel
theorem dX6_pushPending_5 : decode cX6_pushPending 5 = .ok (.aload_n 0, 1) := by decide +kernel
theorem dX6_pushPending_6 : decode cX6_pushPending 6 = .ok (.iconst 2, 1) := by decide +kernel
theorem dX6_pushPending_7 : decode cX6_pushPending 7 = .ok (.iconst (-1), 1) := by decide +kernel
theorem dX6_pushPending_8 : decode cX6_pushPending 8 = .ok (.iload_n 2, 1) := by decide +kernel
theorem dX6_pushPending_9 : decode cX6_pushPending 9 = .ok (.iload_n 3, 1) := by decide +kernel
theorem dX6_pushPending_10 : decode cX6_pushPending 10 = .ok (.iload_n 2, 1) := by decide +kernel
theorem dX6_pushPending_11 : decode cX6_pushPending 11 = .ok (.isub, 1) := by decide +kernel
theorem dX6_pushPending_12 : decode cX6_pushPending 12 = .ok (.invokevirtual 39, 3) := by decide +kernel
theorem dX6_pushPending_15 : decode cX6_pushPending 15 = .ok (.iload_n 2, 1) := by decide +kernel
theorem dX6_pushPending_16 : decode cX6_pushPending 16 = .ok (.istore 4, 2) := by decide +kernel
theorem dX6_pushPending_18 : decode cX6_pushPending 18 = .ok (.iload 4, 2) := by decide +kernel
theorem dX6_pushPending_20 : decode cX6_pushPending 20 = .ok (.iload_n 3, 1) := by decide +kernel
theorem dX6_pushPending_21 : decode cX6_pushPending 21 = .ok (.if_icmp .ge 21, 3) := by decide +kernel
theorem dX6_pushPending_24 : decode cX6_pushPending 24 = .ok (.aload_n 0, 1) := by decide +kernel
theorem dX6_pushPending_25 : decode cX6_pushPending 25 = .ok (.iload 4, 2) := by decide +kernel
theorem dX6_pushPending_27 : decode cX6_pushPending 27 = .ok (.aload_n 1, 1) := by decide +kernel
theorem dX6_pushPending_28 : decode cX6_pushPending 28 = .ok (.iload 4, 2) := by decide +kernel
theorem dX6_pushPending_30 : decode cX6_pushPending 30 = .ok (.invokevirtual 49, 3) := by decide +kernel
theorem dX6_pushPending_33 : decode cX6_pushPending 33 = .ok (.invokevirtual 53, 3) := by decide +kernel
theorem dX6_pushPending_36 : decode cX6_pushPending 36 = .ok (.iinc 4 1, 3) := by decide +kernel
theorem dX6_pushPending_39 : decode cX6_pushPending 39 = .ok (.goto (-21), 3) := by decide +kernel
theorem dX6_pushPending_42 : decode cX6_pushPending 42 = .ok (.return_, 1) := by decide +kernel
theorem dX7_init_0 : decode cX7_init 0 = .ok (.aload_n 0, 1) := by decide +kernel
theorem dX7_init_1 : decode cX7_init 1 = .ok (.invokespecial 3, 3) := by decide +kernel
theorem dX7_init_4 : decode cX7_init 4 = .ok (.aload_n 0, 1) := by decide +kernel
theorem dX7_init_5 : decode cX7_init 5 = .ok (.bipush 30, 2) := by decide +kernel
theorem dX7_init_7 : decode cX7_init 7 = .ok (.newarray .int, 2) := by decide +kernel
theorem dX7_init_9 : decode cX7_init 9 = .ok (.putfield 9, 3) := by decide +kernel
theorem dX7_init_12 : decode cX7_init 12 = .ok (.return_, 1) := by decide +kernel
theorem dX7_has_0 : decode cX7_has 0 = .ok (.iload_n 1, 1) := by decide +kernel
theorem dX7_has_1 : decode cX7_has 1 = .ok (.ifCond .lt 15, 3) := by decide +kernel
theorem dX7_has_4 : decode cX7_has 4 = .ok (.iload_n 1, 1) := by decide +kernel
theorem dX7_has_5 : decode cX7_has 5 = .ok (.aload_n 0, 1) := by decide +kernel
theorem dX7_has_6 : decode cX7_has 6 = .ok (.getfield 15, 3) := by decide +kernel
theorem dX7_has_9 : decode cX7_has 9 = .ok (.if_icmp .ge 7, 3) := by decide +kernel
theorem dX7_has_12 : decode cX7_has 12 = .ok (.iconst 1, 1) := by decide +kernel
theorem dX7_has_13 : decode cX7_has 13 = .ok (.goto 4, 3) := by decide +kernel
theorem dX7_has_16 : decode cX7_has 16 = .ok (.iconst 0, 1) := by decide +kernel
theorem dX7_has_17 : decode cX7_has 17 = .ok (.ireturn, 1) := by decide +kernel
theorem dX7_at_0 : decode cX7_at 0 = .ok (.aload_n 0, 1) := by decide +kernel
theorem dX7_at_1 : decode cX7_at 1 = .ok (.iload_n 1, 1) := by decide +kernel
theorem dX7_at_2 : decode cX7_at 2 = .ok (.invokevirtual 19, 3) := by decide +kernel
theorem dX7_at_5 : decode cX7_at 5 = .ok (.ifCond .eq 12, 3) := by decide +kernel
theorem dX7_at_8 : decode cX7_at 8 = .ok (.aload_n 0, 1) := by decide +kernel
theorem dX7_at_9 : decode cX7_at 9 = .ok (.getfield 9, 3) := by decide +kernel
theorem dX7_at_12 : decode cX7_at 12 = .ok (.iload_n 1, 1) := by decide +kernel
theorem dX7_at_13 : decode cX7_at 13 = .ok (.iaload, 1) := by decide +kernel
theorem dX7_at_14 : decode cX7_at 14 = .ok (.goto 4, 3) := by decide +kernel
theorem dX7_at_17 : decode cX7_at 17 = .ok (.iconst (-1), 1) := by decide +kernel
theorem dX7_at_18 : decode cX7_at 18 = .ok (.ireturn, 1) := by decide +kernel
theorem dX7_isCopied_0 : decode cX7_isCopied 0 = .ok (.aload_n 1, 1) := by decide +kernel
theorem dX7_isCopied_1 : decode cX7_isCopied 1 = .ok (.iload_n 2, 1) := by decide +kernel
theorem dX7_isCopied_2 : decode cX7_isCopied 2 = .ok (.invokevirtual 23, 3) := by decide +kernel
theorem dX7_isCopied_5 : decode cX7_isCopied 5 = .ok (.ifCond .eq 18, 3) := by decide +kernel
theorem dX7_isCopied_8 : decode cX7_isCopied 8 = .ok (.aload_n 0, 1) := by decide +kernel
theorem dX7_isCopied_9 : decode cX7_isCopied 9 = .ok (.getfield 28, 3) := by decide +kernel
theorem dX7_isCopied_12 : decode cX7_isCopied 12 = .ok (.iload_n 2, 1) := by decide +kernel
theorem dX7_isCopied_13 : decode cX7_isCopied 13 = .ok (.invokestatic 31, 3) := by decide +kernel
theorem dX7_isCopied_16 : decode cX7_isCopied 16 = .ok (.ifCond .ne 7, 3) := by decide +kernel
theorem dX7_isCopied_19 : decode cX7_isCopied 19 = .ok (.iconst 1, 1) := by decide +kernel
theorem dX7_isCopied_20 : decode cX7_isCopied 20 = .ok (.goto 4, 3) := by decide +kernel
theorem dX7_isCopied_23 : decode cX7_isCopied 23 = .ok (.iconst 0, 1) := by decide +kernel
theorem dX7_isCopied_24 : decode cX7_isCopied 24 = .ok (.ireturn, 1) := by decide +kernel
theorem dX7_build_0 : decode cX7_build 0 = .ok (.aload_n 0, 1) := by decide +kernel
theorem dX7_build_1 : decode cX7_build 1 = .ok (.iconst 1, 1) := by decide +kernel
theorem dX7_build_2 : decode cX7_build 2 = .ok (.putfield 35, 3) := by decide +kernel
theorem dX7_build_5 : decode cX7_build 5 = .ok (.aload_n 0, 1) := by decide +kernel
theorem dX7_build_6 : decode cX7_build 6 = .ok (.iconst 0, 1) := by decide +kernel
theorem dX7_build_7 : decode cX7_build 7 = .ok (.putfield 15, 3) := by decide +kernel
theorem dX7_build_10 : decode cX7_build 10 = .ok (.aload_n 0, 1) := by decide +kernel
theorem dX7_build_11 : decode cX7_build 11 = .ok (.iconst 0, 1) := by decide +kernel
theorem dX7_build_12 : decode cX7_build 12 = .ok (.putfield 28, 3) := by decide +kernel
theorem dX7_build_15 : decode cX7_build 15 = .ok (.aload_n 0, 1) := by decide +kernel
theorem dX7_build_16 : decode cX7_build 16 = .ok (.iconst 0, 1) := by decide +kernel
theorem dX7_build_17 : decode cX7_build 17 = .ok (.putfield 39, 3) := by decide +kernel
theorem dX7_build_20 : decode cX7_build 20 = .ok (.aload_n 0, 1) := by decide +kernel
theorem dX7_build_21 : decode cX7_build 21 = .ok (.aload_n 1, 1) := by decide +kernel
theorem dX7_build_22 : decode cX7_build 22 = .ok (.iload_n 2, 1) := by decide +kernel
theorem dX7_build_23 : decode cX7_build 23 = .ok (.invokevirtual 42, 3) := by decide +kernel
theorem dX7_build_26 : decode cX7_build 26 = .ok (.iconst 0, 1) := by decide +kernel
theorem dX7_build_27 : decode cX7_build 27 = .ok (.istore_n 3, 1) := by decide +kernel
theorem dX7_build_28 : decode cX7_build 28 = .ok (.iload_n 3, 1) := by decide +kernel
theorem dX7_build_29 : decode cX7_build 29 = .ok (.aload_n 1, 1) := by decide +kernel
theorem dX7_build_30 : decode cX7_build 30 = .ok (.getfield 46, 3) := by decide +kernel
theorem dX7_build_33 : decode cX7_build 33 = .ok (.if_icmp .ge 23, 3) := by decide +kernel
theorem dX7_build_36 : decode cX7_build 36 = .ok (.aload_n 0, 1) := by decide +kernel
theorem dX7_build_37 : decode cX7_build 37 = .ok (.aload_n 1, 1) := by decide +kernel
theorem dX7_build_38 : decode cX7_build 38 = .ok (.iload_n 3, 1) := by decide +kernel
theorem dX7_build_39 : decode cX7_build 39 = .ok (.invokevirtual 47, 3) := by decide +kernel
theorem dX7_build_42 : decode cX7_build 42 = .ok (.ifCond .ne 8, 3) := by decide +kernel
theorem dX7_build_45 : decode cX7_build 45 = .ok (.aload_n 0, 1) := by decide +kernel
theorem dX7_build_46 : decode cX7_build 46 = .ok (.iload_n 3, 1) := by decide +kernel
theorem dX7_build_47 : decode cX7_build 47 = .ok (.invokevirtual 51, 3) := by decide +kernel
theorem dX7_build_50 : decode cX7_build 50 = .ok (.iinc 3 1, 3) := by decide +kernel
theorem dX7_build_53 : decode cX7_build 53 = .ok (.goto (-25), 3) := by decide +kernel
theorem dX7_build_56 : decode cX7_build 56 = .ok (.return_, 1) := by decide +kernel
theorem dX7_placeCopies_0 : decode cX7_placeCopies 0 = .ok (.aload_n 1, 1) := by decide +kernel
theorem dX7_placeCopies_1 : decode cX7_placeCopies 1 = .ok (.getfield 55, 3) := by decide +kernel
theorem dX7_placeCopies_4 : decode cX7_placeCopies 4 = .ok (.istore_n 3, 1) := by decide +kernel
theorem dX7_placeCopies_5 : decode cX7_placeCopies 5 = .ok (.iconst 0, 1) := by decide +kernel
theorem dX7_placeCopies_6 : decode cX7_placeCopies 6 = .ok (.istore 4, 2) := by decide +kernel
theorem dX7_placeCopies_8 : decode cX7_placeCopies 8 = .ok (.iload 4, 2) := by decide +kernel
theorem dX7_placeCopies_10 : decode cX7_placeCopies 10 = .ok (.bipush 30, 2) := by decide +kernel
theorem dX7_placeCopies_12 : decode cX7_placeCopies 12 = .ok (.if_icmp .ge 78, 3) := by decide +kernel
theorem dX7_placeCopies_15 : decode cX7_placeCopies 15 = .ok (.iload_n 3, 1) := by decide +kernel
theorem dX7_placeCopies_16 : decode cX7_placeCopies 16 = .ok (.ifCond .eq 74, 3) := by decide +kernel
theorem dX7_placeCopies_19 : decode cX7_placeCopies 19 = .ok (.aload_n 1, 1) := by decide +kernel
theorem dX7_placeCopies_20 : decode cX7_placeCopies 20 = .ok (.iload_n 3, 1) := by decide +kernel
theorem dX7_placeCopies_21 : decode cX7_placeCopies 21 = .ok (.invokevirtual 58, 3) := by decide +kernel
theorem dX7_placeCopies_24 : decode cX7_placeCopies 24 = .ok (.istore 5, 2) := by decide +kernel
theorem dX7_placeCopies_26 : decode cX7_placeCopies 26 = .ok (.iload 5, 2) := by decide +kernel
theorem dX7_placeCopies_28 : decode cX7_placeCopies 28 = .ok (.iconst (-1), 1) := by decide +kernel
theorem dX7_placeCopies_29 : decode cX7_placeCopies 29 = .ok (.if_icmp .ne 42, 3) := by decide +kernel
theorem dX7_placeCopies_32 : decode cX7_placeCopies 32 = .ok (.aload_n 1, 1) := by decide +kernel
theorem dX7_placeCopies_33 : decode cX7_placeCopies 33 = .ok (.iload_n 3, 1) := by decide +kernel
theorem dX7_placeCopies_34 : decode cX7_placeCopies 34 = .ok (.iload_n 2, 1) := by decide +kernel
theorem dX7_placeCopies_35 : decode cX7_placeCopies 35 = .ok (.invokestatic 62, 3) := by decide +kernel
theorem dX7_placeCopies_38 : decode cX7_placeCopies 38 = .ok (.istore 5, 2) := by decide +kernel
theorem dX7_placeCopies_40 : decode cX7_placeCopies 40 = .ok (.aload_n 0, 1) := by decide +kernel
theorem dX7_placeCopies_41 : decode cX7_placeCopies 41 = .ok (.dup, 1) := by decide +kernel
theorem dX7_placeCopies_42 : decode cX7_placeCopies 42 = .ok (.getfield 28, 3) := by decide +kernel
theorem dX7_placeCopies_45 : decode cX7_placeCopies 45 = .ok (.iconst 1, 1) := by decide +kernel
theorem dX7_placeCopies_46 : decode cX7_placeCopies 46 = .ok (.iload 5, 2) := by decide +kernel
theorem dX7_placeCopies_48 : decode cX7_placeCopies 48 = .ok (.ishl, 1) := by decide +kernel
theorem dX7_placeCopies_49 : decode cX7_placeCopies 49 = .ok (.ior, 1) := by decide +kernel
theorem dX7_placeCopies_50 : decode cX7_placeCopies 50 = .ok (.putfield 28, 3) := by decide +kernel
theorem dX7_placeCopies_53 : decode cX7_placeCopies 53 = .ok (.aload_n 0, 1) := by decide +kernel
theorem dX7_placeCopies_54 : decode cX7_placeCopies 54 = .ok (.dup, 1) := by decide +kernel
theorem dX7_placeCopies_55 : decode cX7_placeCopies 55 = .ok (.getfield 39, 3) := by decide +kernel
theorem dX7_placeCopies_58 : decode cX7_placeCopies 58 = .ok (.aload_n 1, 1) := by decide +kernel
theorem dX7_placeCopies_59 : decode cX7_placeCopies 59 = .ok (.iload 5, 2) := by decide +kernel
theorem dX7_placeCopies_61 : decode cX7_placeCopies 61 = .ok (.invokevirtual 66, 3) := by decide +kernel
theorem dX7_placeCopies_64 : decode cX7_placeCopies 64 = .ok (.iadd, 1) := by decide +kernel
theorem dX7_placeCopies_65 : decode cX7_placeCopies 65 = .ok (.putfield 39, 3) := by decide +kernel
theorem dX7_placeCopies_68 : decode cX7_placeCopies 68 = .ok (.goto 9, 3) := by decide +kernel
theorem dX7_placeCopies_71 : decode cX7_placeCopies 71 = .ok (.aload_n 0, 1) := by decide +kernel
theorem dX7_placeCopies_72 : decode cX7_placeCopies 72 = .ok (.iload 5, 2) := by decide +kernel
theorem dX7_placeCopies_74 : decode cX7_placeCopies 74 = .ok (.invokevirtual 51, 3) := by decide +kernel
theorem dX7_placeCopies_77 : decode cX7_placeCopies 77 = .ok (.iload_n 3, 1) := by decide +kernel
theorem dX7_placeCopies_78 : decode cX7_placeCopies 78 = .ok (.iload 5, 2) := by decide +kernel
theorem dX7_placeCopies_80 : decode cX7_placeCopies 80 = .ok (.invokestatic 69, 3) := by decide +kernel
theorem dX7_placeCopies_83 : decode cX7_placeCopies 83 = .ok (.istore_n 3, 1) := by decide +kernel
theorem dX7_placeCopies_84 : decode cX7_placeCopies 84 = .ok (.iinc 4 1, 3) := by decide +kernel
theorem dX7_placeCopies_87 : decode cX7_placeCopies 87 = .ok (.goto (-79), 3) := by decide +kernel
theorem dX7_placeCopies_90 : decode cX7_placeCopies 90 = .ok (.return_, 1) := by decide +kernel
theorem dX7_place_0 : decode cX7_place 0 = .ok (.aload_n 0, 1) := by decide +kernel
theorem dX7_place_1 : decode cX7_place 1 = .ok (.getfield 15, 3) := by decide +kernel
theorem dX7_place_4 : decode cX7_place 4 = .ok (.bipush 30, 2) := by decide +kernel
theorem dX7_place_6 : decode cX7_place 6 = .ok (.if_icmp .ge 23, 3) := by decide +kernel
theorem dX7_place_9 : decode cX7_place 9 = .ok (.aload_n 0, 1) := by decide +kernel
theorem dX7_place_10 : decode cX7_place 10 = .ok (.getfield 9, 3) := by decide +kernel
theorem dX7_place_13 : decode cX7_place 13 = .ok (.aload_n 0, 1) := by decide +kernel
theorem dX7_place_14 : decode cX7_place 14 = .ok (.getfield 15, 3) := by decide +kernel
theorem dX7_place_17 : decode cX7_place 17 = .ok (.iload_n 1, 1) := by decide +kernel
theorem dX7_place_18 : decode cX7_place 18 = .ok (.iastore, 1) := by decide +kernel
theorem dX7_place_19 : decode cX7_place 19 = .ok (.aload_n 0, 1) := by decide +kernel
theorem dX7_place_20 : decode cX7_place 20 = .ok (.dup, 1) := by decide +kernel
theorem dX7_place_21 : decode cX7_place 21 = .ok (.getfield 15, 3) := by decide +kernel
theorem dX7_place_24 : decode cX7_place 24 = .ok (.iconst 1, 1) := by decide +kernel
theorem dX7_place_25 : decode cX7_place 25 = .ok (.iadd, 1) := by decide +kernel
theorem dX7_place_26 : decode cX7_place 26 = .ok (.putfield 15, 3) := by decide +kernel
theorem dX7_place_29 : decode cX7_place 29 = .ok (.return_, 1) := by decide +kernel
theorem dX7_choose_0 : decode cX7_choose 0 = .ok (.iconst (-1), 1) := by decide +kernel
theorem dX7_choose_1 : decode cX7_choose 1 = .ok (.istore_n 3, 1) := by decide +kernel
theorem dX7_choose_2 : decode cX7_choose 2 = .ok (.iconst 0, 1) := by decide +kernel
theorem dX7_choose_3 : decode cX7_choose 3 = .ok (.istore 4, 2) := by decide +kernel
theorem dX7_choose_5 : decode cX7_choose 5 = .ok (.iconst 0, 1) := by decide +kernel
theorem dX7_choose_6 : decode cX7_choose 6 = .ok (.istore 5, 2) := by decide +kernel
theorem dX7_choose_8 : decode cX7_choose 8 = .ok (.iload 5, 2) := by decide +kernel
theorem dX7_choose_10 : decode cX7_choose 10 = .ok (.aload_n 0, 1) := by decide +kernel
theorem dX7_choose_11 : decode cX7_choose 11 = .ok (.getfield 46, 3) := by decide +kernel
theorem dX7_choose_14 : decode cX7_choose 14 = .ok (.if_icmp .ge 47, 3) := by decide +kernel
theorem dX7_choose_17 : decode cX7_choose 17 = .ok (.iload_n 1, 1) := by decide +kernel
theorem dX7_choose_18 : decode cX7_choose 18 = .ok (.iload 5, 2) := by decide +kernel
theorem dX7_choose_20 : decode cX7_choose 20 = .ok (.invokestatic 31, 3) := by decide +kernel
theorem dX7_choose_23 : decode cX7_choose 23 = .ok (.ifCond .eq 32, 3) := by decide +kernel
theorem dX7_choose_26 : decode cX7_choose 26 = .ok (.aload_n 0, 1) := by decide +kernel
theorem dX7_choose_27 : decode cX7_choose 27 = .ok (.iload_n 1, 1) := by decide +kernel
theorem dX7_choose_28 : decode cX7_choose 28 = .ok (.iload_n 2, 1) := by decide +kernel
theorem dX7_choose_29 : decode cX7_choose 29 = .ok (.iload 5, 2) := by decide +kernel
theorem dX7_choose_31 : decode cX7_choose 31 = .ok (.invokestatic 73, 3) := by decide +kernel
theorem dX7_choose_34 : decode cX7_choose 34 = .ok (.istore 6, 2) := by decide +kernel
theorem dX7_choose_36 : decode cX7_choose 36 = .ok (.iload_n 3, 1) := by decide +kernel
theorem dX7_choose_37 : decode cX7_choose 37 = .ok (.iconst (-1), 1) := by decide +kernel
theorem dX7_choose_38 : decode cX7_choose 38 = .ok (.if_icmp .eq 10, 3) := by decide +kernel
theorem dX7_choose_41 : decode cX7_choose 41 = .ok (.iload 6, 2) := by decide +kernel
theorem dX7_choose_43 : decode cX7_choose 43 = .ok (.iload 4, 2) := by decide +kernel
theorem dX7_choose_45 : decode cX7_choose 45 = .ok (.if_icmp .le 10, 3) := by decide +kernel
theorem dX7_choose_48 : decode cX7_choose 48 = .ok (.iload 5, 2) := by decide +kernel
theorem dX7_choose_50 : decode cX7_choose 50 = .ok (.istore_n 3, 1) := by decide +kernel
theorem dX7_choose_51 : decode cX7_choose 51 = .ok (.iload 6, 2) := by decide +kernel
theorem dX7_choose_53 : decode cX7_choose 53 = .ok (.istore 4, 2) := by decide +kernel
theorem dX7_choose_55 : decode cX7_choose 55 = .ok (.iinc 5 1, 3) := by decide +kernel
theorem dX7_choose_58 : decode cX7_choose 58 = .ok (.goto (-50), 3) := by decide +kernel
theorem dX7_choose_61 : decode cX7_choose 61 = .ok (.iload_n 3, 1) := by decide +kernel
theorem dX7_choose_62 : decode cX7_choose 62 = .ok (.ireturn, 1) := by decide +kernel
theorem dX7_worth_0 : decode cX7_worth 0 = .ok (.iload_n 2, 1) := by decide +kernel
theorem dX7_worth_1 : decode cX7_worth 1 = .ok (.lookupswitch 41 #[(1, 27), (2, 34)], 27) := by decide +kernel
theorem dX7_worth_28 : decode cX7_worth 28 = .ok (.aload_n 0, 1) := by decide +kernel
theorem dX7_worth_29 : decode cX7_worth 29 = .ok (.iload_n 3, 1) := by decide +kernel
theorem dX7_worth_30 : decode cX7_worth 30 = .ok (.invokevirtual 66, 3) := by decide +kernel
theorem dX7_worth_33 : decode cX7_worth 33 = .ok (.ineg, 1) := by decide +kernel
theorem dX7_worth_34 : decode cX7_worth 34 = .ok (.ireturn, 1) := by decide +kernel
theorem dX7_worth_35 : decode cX7_worth 35 = .ok (.aload_n 0, 1) := by decide +kernel
theorem dX7_worth_36 : decode cX7_worth 36 = .ok (.iload_n 1, 1) := by decide +kernel
theorem dX7_worth_37 : decode cX7_worth 37 = .ok (.iload_n 3, 1) := by decide +kernel
theorem dX7_worth_38 : decode cX7_worth 38 = .ok (.invokestatic 77, 3) := by decide +kernel
theorem dX7_worth_41 : decode cX7_worth 41 = .ok (.ireturn, 1) := by decide +kernel
theorem dX7_worth_42 : decode cX7_worth 42 = .ok (.iconst 0, 1) := by decide +kernel
theorem dX7_worth_43 : decode cX7_worth 43 = .ok (.ireturn, 1) := by decide +kernel
theorem dX7_conflicts_0 : decode cX7_conflicts 0 = .ok (.aload_n 0, 1) := by decide +kernel
theorem dX7_conflicts_1 : decode cX7_conflicts 1 = .ok (.iload_n 2, 1) := by decide +kernel
theorem dX7_conflicts_2 : decode cX7_conflicts 2 = .ok (.invokevirtual 80, 3) := by decide +kernel
theorem dX7_conflicts_5 : decode cX7_conflicts 5 = .ok (.iload_n 1, 1) := by decide +kernel
theorem dX7_conflicts_6 : decode cX7_conflicts 6 = .ok (.iand, 1) := by decide +kernel
theorem dX7_conflicts_7 : decode cX7_conflicts 7 = .ok (.istore_n 3, 1) := by decide +kernel
theorem dX7_conflicts_8 : decode cX7_conflicts 8 = .ok (.iconst 0, 1) := by decide +kernel
theorem dX7_conflicts_9 : decode cX7_conflicts 9 = .ok (.istore 4, 2) := by decide +kernel
theorem dX7_conflicts_11 : decode cX7_conflicts 11 = .ok (.iload 4, 2) := by decide +kernel
theorem dX7_conflicts_13 : decode cX7_conflicts 13 = .ok (.aload_n 0, 1) := by decide +kernel
theorem dX7_conflicts_14 : decode cX7_conflicts 14 = .ok (.getfield 46, 3) := by decide +kernel
theorem dX7_conflicts_17 : decode cX7_conflicts 17 = .ok (.if_icmp .ge 38, 3) := by decide +kernel
theorem dX7_conflicts_20 : decode cX7_conflicts 20 = .ok (.iload_n 1, 1) := by decide +kernel
theorem dX7_conflicts_21 : decode cX7_conflicts 21 = .ok (.iload 4, 2) := by decide +kernel
theorem dX7_conflicts_23 : decode cX7_conflicts 23 = .ok (.invokestatic 31, 3) := by decide +kernel
theorem dX7_conflicts_26 : decode cX7_conflicts 26 = .ok (.ifCond .eq 23, 3) := by decide +kernel
theorem dX7_conflicts_29 : decode cX7_conflicts 29 = .ok (.aload_n 0, 1) := by decide +kernel
theorem dX7_conflicts_30 : decode cX7_conflicts 30 = .ok (.iload 4, 2) := by decide +kernel
theorem dX7_conflicts_32 : decode cX7_conflicts 32 = .ok (.invokevirtual 80, 3) := by decide +kernel
theorem dX7_conflicts_35 : decode cX7_conflicts 35 = .ok (.iload_n 2, 1) := by decide +kernel
theorem dX7_conflicts_36 : decode cX7_conflicts 36 = .ok (.invokestatic 31, 3) := by decide +kernel
theorem dX7_conflicts_39 : decode cX7_conflicts 39 = .ok (.ifCond .eq 10, 3) := by decide +kernel
theorem dX7_conflicts_42 : decode cX7_conflicts 42 = .ok (.iload_n 3, 1) := by decide +kernel
theorem dX7_conflicts_43 : decode cX7_conflicts 43 = .ok (.iconst 1, 1) := by decide +kernel
theorem dX7_conflicts_44 : decode cX7_conflicts 44 = .ok (.iload 4, 2) := by decide +kernel
theorem dX7_conflicts_46 : decode cX7_conflicts 46 = .ok (.ishl, 1) := by decide +kernel
theorem dX7_conflicts_47 : decode cX7_conflicts 47 = .ok (.ior, 1) := by decide +kernel
theorem dX7_conflicts_48 : decode cX7_conflicts 48 = .ok (.istore_n 3, 1) := by decide +kernel
theorem dX7_conflicts_49 : decode cX7_conflicts 49 = .ok (.iinc 4 1, 3) := by decide +kernel
theorem dX7_conflicts_52 : decode cX7_conflicts 52 = .ok (.goto (-41), 3) := by decide +kernel
theorem dX7_conflicts_55 : decode cX7_conflicts 55 = .ok (.iload_n 3, 1) := by decide +kernel
theorem dX7_conflicts_56 : decode cX7_conflicts 56 = .ok (.invokestatic 83, 3) := by decide +kernel
theorem dX7_conflicts_59 : decode cX7_conflicts 59 = .ok (.ireturn, 1) := by decide +kernel
theorem dX7_take_0 : decode cX7_take 0 = .ok (.aload_n 0, 1) := by decide +kernel
theorem dX7_take_1 : decode cX7_take 1 = .ok (.aload_n 1, 1) := by decide +kernel
theorem dX7_take_2 : decode cX7_take 2 = .ok (.getfield 35, 3) := by decide +kernel
theorem dX7_take_5 : decode cX7_take 5 = .ok (.putfield 35, 3) := by decide +kernel
theorem dX7_take_8 : decode cX7_take 8 = .ok (.aload_n 0, 1) := by decide +kernel
theorem dX7_take_9 : decode cX7_take 9 = .ok (.aload_n 1, 1) := by decide +kernel
theorem dX7_take_10 : decode cX7_take 10 = .ok (.getfield 15, 3) := by decide +kernel
