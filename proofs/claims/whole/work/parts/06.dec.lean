theorem dX11_mustPrecede_29 : decode cX11_mustPrecede 29 = .ok (.aload_n 0, 1) := by decide +kernel
theorem dX11_mustPrecede_30 : decode cX11_mustPrecede 30 = .ok (.iload_n 1, 1) := by decide +kernel
theorem dX11_mustPrecede_31 : decode cX11_mustPrecede 31 = .ok (.iload_n 2, 1) := by decide +kernel
theorem dX11_mustPrecede_32 : decode cX11_mustPrecede 32 = .ok (.invokevirtual 99, 3) := by decide +kernel
theorem dX11_mustPrecede_35 : decode cX11_mustPrecede 35 = .ok (.ifCond .eq 7, 3) := by decide +kernel
theorem dX11_mustPrecede_38 : decode cX11_mustPrecede 38 = .ok (.iconst 1, 1) := by decide +kernel
theorem dX11_mustPrecede_39 : decode cX11_mustPrecede 39 = .ok (.goto 4, 3) := by decide +kernel
theorem dX11_mustPrecede_42 : decode cX11_mustPrecede 42 = .ok (.iconst 0, 1) := by decide +kernel
theorem dX11_mustPrecede_43 : decode cX11_mustPrecede 43 = .ok (.ireturn, 1) := by decide +kernel
theorem dX11_freeOf_0 : decode cX11_freeOf 0 = .ok (.iconst 0, 1) := by decide +kernel
theorem dX11_freeOf_1 : decode cX11_freeOf 1 = .ok (.istore_n 2, 1) := by decide +kernel
theorem dX11_freeOf_2 : decode cX11_freeOf 2 = .ok (.iload_n 2, 1) := by decide +kernel
theorem dX11_freeOf_3 : decode cX11_freeOf 3 = .ok (.aload_n 0, 1) := by decide +kernel
theorem dX11_freeOf_4 : decode cX11_freeOf 4 = .ok (.getfield 7, 3) := by decide +kernel
theorem dX11_freeOf_7 : decode cX11_freeOf 7 = .ok (.sipush 132, 3) := by decide +kernel
theorem dX11_freeOf_10 : decode cX11_freeOf 10 = .ok (.iaload, 1) := by decide +kernel
theorem dX11_freeOf_11 : decode cX11_freeOf 11 = .ok (.if_icmp .ge 81, 3) := by decide +kernel
theorem dX11_freeOf_14 : decode cX11_freeOf 14 = .ok (.iload_n 1, 1) := by decide +kernel
theorem dX11_freeOf_15 : decode cX11_freeOf 15 = .ok (.iload_n 2, 1) := by decide +kernel
theorem dX11_freeOf_16 : decode cX11_freeOf 16 = .ok (.ishr, 1) := by decide +kernel
theorem dX11_freeOf_17 : decode cX11_freeOf 17 = .ok (.iconst 1, 1) := by decide +kernel
theorem dX11_freeOf_18 : decode cX11_freeOf 18 = .ok (.iand, 1) := by decide +kernel
theorem dX11_freeOf_19 : decode cX11_freeOf 19 = .ok (.iconst 1, 1) := by decide +kernel
theorem dX11_freeOf_20 : decode cX11_freeOf 20 = .ok (.if_icmp .ne 7, 3) := by decide +kernel
theorem dX11_freeOf_23 : decode cX11_freeOf 23 = .ok (.iconst 1, 1) := by decide +kernel
theorem dX11_freeOf_24 : decode cX11_freeOf 24 = .ok (.goto 4, 3) := by decide +kernel
theorem dX11_freeOf_27 : decode cX11_freeOf 27 = .ok (.iconst 0, 1) := by decide +kernel
theorem dX11_freeOf_28 : decode cX11_freeOf 28 = .ok (.istore_n 3, 1) := by decide +kernel
theorem dX11_freeOf_29 : decode cX11_freeOf 29 = .ok (.iconst 0, 1) := by decide +kernel
theorem dX11_freeOf_30 : decode cX11_freeOf 30 = .ok (.istore 4, 2) := by decide +kernel
theorem dX11_freeOf_32 : decode cX11_freeOf 32 = .ok (.iload 4, 2) := by decide +kernel
theorem dX11_freeOf_34 : decode cX11_freeOf 34 = .ok (.aload_n 0, 1) := by decide +kernel
theorem dX11_freeOf_35 : decode cX11_freeOf 35 = .ok (.getfield 7, 3) := by decide +kernel
theorem dX11_freeOf_38 : decode cX11_freeOf 38 = .ok (.sipush 132, 3) := by decide +kernel
theorem dX11_freeOf_41 : decode cX11_freeOf 41 = .ok (.iaload, 1) := by decide +kernel
theorem dX11_freeOf_42 : decode cX11_freeOf 42 = .ok (.if_icmp .ge 38, 3) := by decide +kernel
theorem dX11_freeOf_45 : decode cX11_freeOf 45 = .ok (.iload_n 3, 1) := by decide +kernel
theorem dX11_freeOf_46 : decode cX11_freeOf 46 = .ok (.ifCond .eq 34, 3) := by decide +kernel
theorem dX11_freeOf_49 : decode cX11_freeOf 49 = .ok (.iload_n 1, 1) := by decide +kernel
theorem dX11_freeOf_50 : decode cX11_freeOf 50 = .ok (.iload 4, 2) := by decide +kernel
theorem dX11_freeOf_52 : decode cX11_freeOf 52 = .ok (.ishr, 1) := by decide +kernel
theorem dX11_freeOf_53 : decode cX11_freeOf 53 = .ok (.iconst 1, 1) := by decide +kernel
theorem dX11_freeOf_54 : decode cX11_freeOf 54 = .ok (.iand, 1) := by decide +kernel
theorem dX11_freeOf_55 : decode cX11_freeOf 55 = .ok (.ifCond .eq 13, 3) := by decide +kernel
theorem dX11_freeOf_58 : decode cX11_freeOf 58 = .ok (.aload_n 0, 1) := by decide +kernel
theorem dX11_freeOf_59 : decode cX11_freeOf 59 = .ok (.iload 4, 2) := by decide +kernel
theorem dX11_freeOf_61 : decode cX11_freeOf 61 = .ok (.iload_n 2, 1) := by decide +kernel
theorem dX11_freeOf_62 : decode cX11_freeOf 62 = .ok (.invokevirtual 99, 3) := by decide +kernel
theorem dX11_freeOf_65 : decode cX11_freeOf 65 = .ok (.ifCond .ne 7, 3) := by decide +kernel
theorem dX11_freeOf_68 : decode cX11_freeOf 68 = .ok (.iconst 1, 1) := by decide +kernel
theorem dX11_freeOf_69 : decode cX11_freeOf 69 = .ok (.goto 4, 3) := by decide +kernel
theorem dX11_freeOf_72 : decode cX11_freeOf 72 = .ok (.iconst 0, 1) := by decide +kernel
theorem dX11_freeOf_73 : decode cX11_freeOf 73 = .ok (.istore_n 3, 1) := by decide +kernel
theorem dX11_freeOf_74 : decode cX11_freeOf 74 = .ok (.iinc 4 1, 3) := by decide +kernel
theorem dX11_freeOf_77 : decode cX11_freeOf 77 = .ok (.goto (-45), 3) := by decide +kernel
theorem dX11_freeOf_80 : decode cX11_freeOf 80 = .ok (.iload_n 3, 1) := by decide +kernel
theorem dX11_freeOf_81 : decode cX11_freeOf 81 = .ok (.ifCond .eq 5, 3) := by decide +kernel
theorem dX11_freeOf_84 : decode cX11_freeOf 84 = .ok (.iload_n 2, 1) := by decide +kernel
theorem dX11_freeOf_85 : decode cX11_freeOf 85 = .ok (.ireturn, 1) := by decide +kernel
theorem dX11_freeOf_86 : decode cX11_freeOf 86 = .ok (.iinc 2 1, 3) := by decide +kernel
theorem dX11_freeOf_89 : decode cX11_freeOf 89 = .ok (.goto (-87), 3) := by decide +kernel
theorem dX11_freeOf_92 : decode cX11_freeOf 92 = .ok (.iconst (-1), 1) := by decide +kernel
theorem dX11_freeOf_93 : decode cX11_freeOf 93 = .ok (.ireturn, 1) := by decide +kernel
theorem dX11_copies_0 : decode cX11_copies 0 = .ok (.iconst 0, 1) := by decide +kernel
theorem dX11_copies_1 : decode cX11_copies 1 = .ok (.istore_n 1, 1) := by decide +kernel
theorem dX11_copies_2 : decode cX11_copies 2 = .ok (.iconst 0, 1) := by decide +kernel
theorem dX11_copies_3 : decode cX11_copies 3 = .ok (.istore_n 2, 1) := by decide +kernel
theorem dX11_copies_4 : decode cX11_copies 4 = .ok (.iload_n 2, 1) := by decide +kernel
theorem dX11_copies_5 : decode cX11_copies 5 = .ok (.aload_n 0, 1) := by decide +kernel
theorem dX11_copies_6 : decode cX11_copies 6 = .ok (.getfield 7, 3) := by decide +kernel
theorem dX11_copies_9 : decode cX11_copies 9 = .ok (.sipush 132, 3) := by decide +kernel
theorem dX11_copies_12 : decode cX11_copies 12 = .ok (.iaload, 1) := by decide +kernel
theorem dX11_copies_13 : decode cX11_copies 13 = .ok (.if_icmp .ge 27, 3) := by decide +kernel
theorem dX11_copies_16 : decode cX11_copies 16 = .ok (.iload_n 1, 1) := by decide +kernel
theorem dX11_copies_17 : decode cX11_copies 17 = .ok (.aload_n 0, 1) := by decide +kernel
theorem dX11_copies_18 : decode cX11_copies 18 = .ok (.iload_n 2, 1) := by decide +kernel
theorem dX11_copies_19 : decode cX11_copies 19 = .ok (.invokevirtual 96, 3) := by decide +kernel
theorem dX11_copies_22 : decode cX11_copies 22 = .ok (.ifCond .eq 9, 3) := by decide +kernel
theorem dX11_copies_25 : decode cX11_copies 25 = .ok (.iconst 1, 1) := by decide +kernel
theorem dX11_copies_26 : decode cX11_copies 26 = .ok (.iload_n 2, 1) := by decide +kernel
theorem dX11_copies_27 : decode cX11_copies 27 = .ok (.ishl, 1) := by decide +kernel
theorem dX11_copies_28 : decode cX11_copies 28 = .ok (.goto 4, 3) := by decide +kernel
theorem dX11_copies_31 : decode cX11_copies 31 = .ok (.iconst 0, 1) := by decide +kernel
theorem dX11_copies_32 : decode cX11_copies 32 = .ok (.ior, 1) := by decide +kernel
theorem dX11_copies_33 : decode cX11_copies 33 = .ok (.istore_n 1, 1) := by decide +kernel
theorem dX11_copies_34 : decode cX11_copies 34 = .ok (.iinc 2 1, 3) := by decide +kernel
theorem dX11_copies_37 : decode cX11_copies 37 = .ok (.goto (-33), 3) := by decide +kernel
theorem dX11_copies_40 : decode cX11_copies 40 = .ok (.iload_n 1, 1) := by decide +kernel
theorem dX11_copies_41 : decode cX11_copies 41 = .ok (.ireturn, 1) := by decide +kernel
theorem dX11_others_0 : decode cX11_others 0 = .ok (.iconst 0, 1) := by decide +kernel
theorem dX11_others_1 : decode cX11_others 1 = .ok (.istore_n 3, 1) := by decide +kernel
theorem dX11_others_2 : decode cX11_others 2 = .ok (.iconst 0, 1) := by decide +kernel
theorem dX11_others_3 : decode cX11_others 3 = .ok (.istore 4, 2) := by decide +kernel
theorem dX11_others_5 : decode cX11_others 5 = .ok (.iload 4, 2) := by decide +kernel
theorem dX11_others_7 : decode cX11_others 7 = .ok (.aload_n 0, 1) := by decide +kernel
theorem dX11_others_8 : decode cX11_others 8 = .ok (.getfield 7, 3) := by decide +kernel
theorem dX11_others_11 : decode cX11_others 11 = .ok (.sipush 132, 3) := by decide +kernel
theorem dX11_others_14 : decode cX11_others 14 = .ok (.iaload, 1) := by decide +kernel
theorem dX11_others_15 : decode cX11_others 15 = .ok (.if_icmp .ge 47, 3) := by decide +kernel
theorem dX11_others_18 : decode cX11_others 18 = .ok (.iload_n 3, 1) := by decide +kernel
theorem dX11_others_19 : decode cX11_others 19 = .ok (.iload_n 2, 1) := by decide +kernel
theorem dX11_others_20 : decode cX11_others 20 = .ok (.iload 4, 2) := by decide +kernel
theorem dX11_others_22 : decode cX11_others 22 = .ok (.ishr, 1) := by decide +kernel
theorem dX11_others_23 : decode cX11_others 23 = .ok (.iconst 1, 1) := by decide +kernel
theorem dX11_others_24 : decode cX11_others 24 = .ok (.iand, 1) := by decide +kernel
theorem dX11_others_25 : decode cX11_others 25 = .ok (.iconst 1, 1) := by decide +kernel
theorem dX11_others_26 : decode cX11_others 26 = .ok (.if_icmp .ne 27, 3) := by decide +kernel
theorem dX11_others_29 : decode cX11_others 29 = .ok (.aload_n 0, 1) := by decide +kernel
theorem dX11_others_30 : decode cX11_others 30 = .ok (.iload 4, 2) := by decide +kernel
theorem dX11_others_32 : decode cX11_others 32 = .ok (.iload_n 1, 1) := by decide +kernel
theorem dX11_others_33 : decode cX11_others 33 = .ok (.invokevirtual 99, 3) := by decide +kernel
theorem dX11_others_36 : decode cX11_others 36 = .ok (.ifCond .ne 13, 3) := by decide +kernel
theorem dX11_others_39 : decode cX11_others 39 = .ok (.aload_n 0, 1) := by decide +kernel
theorem dX11_others_40 : decode cX11_others 40 = .ok (.iload_n 1, 1) := by decide +kernel
theorem dX11_others_41 : decode cX11_others 41 = .ok (.iload 4, 2) := by decide +kernel
theorem dX11_others_43 : decode cX11_others 43 = .ok (.invokevirtual 99, 3) := by decide +kernel
theorem dX11_others_46 : decode cX11_others 46 = .ok (.ifCond .eq 7, 3) := by decide +kernel
theorem dX11_others_49 : decode cX11_others 49 = .ok (.iconst 1, 1) := by decide +kernel
theorem dX11_others_50 : decode cX11_others 50 = .ok (.goto 4, 3) := by decide +kernel
theorem dX11_others_53 : decode cX11_others 53 = .ok (.iconst 0, 1) := by decide +kernel
theorem dX11_others_54 : decode cX11_others 54 = .ok (.iadd, 1) := by decide +kernel
theorem dX11_others_55 : decode cX11_others 55 = .ok (.istore_n 3, 1) := by decide +kernel
theorem dX11_others_56 : decode cX11_others 56 = .ok (.iinc 4 1, 3) := by decide +kernel
theorem dX11_others_59 : decode cX11_others 59 = .ok (.goto (-54), 3) := by decide +kernel
theorem dX11_others_62 : decode cX11_others 62 = .ok (.iload_n 3, 1) := by decide +kernel
theorem dX11_others_63 : decode cX11_others 63 = .ok (.ireturn, 1) := by decide +kernel
theorem dX11_victim_0 : decode cX11_victim 0 = .ok (.iconst (-1), 1) := by decide +kernel
theorem dX11_victim_1 : decode cX11_victim 1 = .ok (.istore_n 3, 1) := by decide +kernel
theorem dX11_victim_2 : decode cX11_victim 2 = .ok (.iconst 0, 1) := by decide +kernel
theorem dX11_victim_3 : decode cX11_victim 3 = .ok (.istore 4, 2) := by decide +kernel
theorem dX11_victim_5 : decode cX11_victim 5 = .ok (.iconst 0, 1) := by decide +kernel
theorem dX11_victim_6 : decode cX11_victim 6 = .ok (.istore 5, 2) := by decide +kernel
theorem dX11_victim_8 : decode cX11_victim 8 = .ok (.iload 5, 2) := by decide +kernel
theorem dX11_victim_10 : decode cX11_victim 10 = .ok (.aload_n 0, 1) := by decide +kernel
theorem dX11_victim_11 : decode cX11_victim 11 = .ok (.getfield 7, 3) := by decide +kernel
theorem dX11_victim_14 : decode cX11_victim 14 = .ok (.sipush 132, 3) := by decide +kernel
theorem dX11_victim_17 : decode cX11_victim 17 = .ok (.iaload, 1) := by decide +kernel
theorem dX11_victim_18 : decode cX11_victim 18 = .ok (.if_icmp .ge 71, 3) := by decide +kernel
theorem dX11_victim_21 : decode cX11_victim 21 = .ok (.iload_n 1, 1) := by decide +kernel
theorem dX11_victim_22 : decode cX11_victim 22 = .ok (.iload 5, 2) := by decide +kernel
theorem dX11_victim_24 : decode cX11_victim 24 = .ok (.ishr, 1) := by decide +kernel
theorem dX11_victim_25 : decode cX11_victim 25 = .ok (.iconst 1, 1) := by decide +kernel
theorem dX11_victim_26 : decode cX11_victim 26 = .ok (.iand, 1) := by decide +kernel
theorem dX11_victim_27 : decode cX11_victim 27 = .ok (.iconst 1, 1) := by decide +kernel
theorem dX11_victim_28 : decode cX11_victim 28 = .ok (.if_icmp .ne 55, 3) := by decide +kernel
theorem dX11_victim_31 : decode cX11_victim 31 = .ok (.iload_n 2, 1) := by decide +kernel
theorem dX11_victim_32 : decode cX11_victim 32 = .ok (.ifCond .ne 7, 3) := by decide +kernel
theorem dX11_victim_35 : decode cX11_victim 35 = .ok (.iconst 0, 1) := by decide +kernel
theorem dX11_victim_36 : decode cX11_victim 36 = .ok (.goto 26, 3) := by decide +kernel
theorem dX11_victim_39 : decode cX11_victim 39 = .ok (.iload_n 2, 1) := by decide +kernel
theorem dX11_victim_40 : decode cX11_victim 40 = .ok (.iconst 1, 1) := by decide +kernel
theorem dX11_victim_41 : decode cX11_victim 41 = .ok (.if_icmp .ne 13, 3) := by decide +kernel
theorem dX11_victim_44 : decode cX11_victim 44 = .ok (.aload_n 0, 1) := by decide +kernel
theorem dX11_victim_45 : decode cX11_victim 45 = .ok (.iload 5, 2) := by decide +kernel
theorem dX11_victim_47 : decode cX11_victim 47 = .ok (.iconst 3, 1) := by decide +kernel
theorem dX11_victim_48 : decode cX11_victim 48 = .ok (.invokevirtual 77, 3) := by decide +kernel
theorem dX11_victim_51 : decode cX11_victim 51 = .ok (.goto 11, 3) := by decide +kernel
theorem dX11_victim_54 : decode cX11_victim 54 = .ok (.aload_n 0, 1) := by decide +kernel
theorem dX11_victim_55 : decode cX11_victim 55 = .ok (.iload 5, 2) := by decide +kernel
theorem dX11_victim_57 : decode cX11_victim 57 = .ok (.iload_n 1, 1) := by decide +kernel
theorem dX11_victim_58 : decode cX11_victim 58 = .ok (.invokevirtual 102, 3) := by decide +kernel
theorem dX11_victim_61 : decode cX11_victim 61 = .ok (.ineg, 1) := by decide +kernel
theorem dX11_victim_62 : decode cX11_victim 62 = .ok (.istore 6, 2) := by decide +kernel
theorem dX11_victim_64 : decode cX11_victim 64 = .ok (.iload_n 3, 1) := by decide +kernel
theorem dX11_victim_65 : decode cX11_victim 65 = .ok (.iconst (-1), 1) := by decide +kernel
theorem dX11_victim_66 : decode cX11_victim 66 = .ok (.if_icmp .eq 10, 3) := by decide +kernel
theorem dX11_victim_69 : decode cX11_victim 69 = .ok (.iload 6, 2) := by decide +kernel
theorem dX11_victim_71 : decode cX11_victim 71 = .ok (.iload 4, 2) := by decide +kernel
theorem dX11_victim_73 : decode cX11_victim 73 = .ok (.if_icmp .ge 10, 3) := by decide +kernel
theorem dX11_victim_76 : decode cX11_victim 76 = .ok (.iload 5, 2) := by decide +kernel
theorem dX11_victim_78 : decode cX11_victim 78 = .ok (.istore_n 3, 1) := by decide +kernel
theorem dX11_victim_79 : decode cX11_victim 79 = .ok (.iload 6, 2) := by decide +kernel
theorem dX11_victim_81 : decode cX11_victim 81 = .ok (.istore 4, 2) := by decide +kernel
theorem dX11_victim_83 : decode cX11_victim 83 = .ok (.iinc 5 1, 3) := by decide +kernel
theorem dX11_victim_86 : decode cX11_victim 86 = .ok (.goto (-78), 3) := by decide +kernel
theorem dX11_victim_89 : decode cX11_victim 89 = .ok (.iload_n 3, 1) := by decide +kernel
theorem dX11_victim_90 : decode cX11_victim 90 = .ok (.ireturn, 1) := by decide +kernel
theorem dX11_plan_0 : decode cX11_plan 0 = .ok (.aload_n 0, 1) := by decide +kernel
theorem dX11_plan_1 : decode cX11_plan 1 = .ok (.iload_n 1, 1) := by decide +kernel
theorem dX11_plan_2 : decode cX11_plan 2 = .ok (.i2l, 1) := by decide +kernel
theorem dX11_plan_3 : decode cX11_plan 3 = .ok (.lconst 0, 1) := by decide +kernel
theorem dX11_plan_4 : decode cX11_plan 4 = .ok (.ldc2_w 105, 3) := by decide +kernel
theorem dX11_plan_7 : decode cX11_plan 7 = .ok (.invokestatic 44, 3) := by decide +kernel
theorem dX11_plan_10 : decode cX11_plan 10 = .ok (.aload_n 0, 1) := by decide +kernel
theorem dX11_plan_11 : decode cX11_plan 11 = .ok (.iconst 0, 1) := by decide +kernel
theorem dX11_plan_12 : decode cX11_plan 12 = .ok (.invokevirtual 55, 3) := by decide +kernel
theorem dX11_plan_15 : decode cX11_plan 15 = .ok (.aload_n 0, 1) := by decide +kernel
theorem dX11_plan_16 : decode cX11_plan 16 = .ok (.getfield 7, 3) := by decide +kernel
theorem dX11_plan_19 : decode cX11_plan 19 = .ok (.sipush 130, 3) := by decide +kernel
theorem dX11_plan_22 : decode cX11_plan 22 = .ok (.iaload, 1) := by decide +kernel
theorem dX11_plan_23 : decode cX11_plan 23 = .ok (.if_icmp .ne 7, 3) := by decide +kernel
theorem dX11_plan_26 : decode cX11_plan 26 = .ok (.iconst 1, 1) := by decide +kernel
theorem dX11_plan_27 : decode cX11_plan 27 = .ok (.goto 4, 3) := by decide +kernel
theorem dX11_plan_30 : decode cX11_plan 30 = .ok (.iconst 0, 1) := by decide +kernel
theorem dX11_plan_31 : decode cX11_plan 31 = .ok (.invokevirtual 59, 3) := by decide +kernel
theorem dX11_plan_34 : decode cX11_plan 34 = .ok (.ifCond .ne 5, 3) := by decide +kernel
theorem dX11_plan_37 : decode cX11_plan 37 = .ok (.iconst 0, 1) := by decide +kernel
theorem dX11_plan_38 : decode cX11_plan 38 = .ok (.ireturn, 1) := by decide +kernel
theorem dX11_plan_39 : decode cX11_plan 39 = .ok (.aload_n 0, 1) := by decide +kernel
theorem dX11_plan_40 : decode cX11_plan 40 = .ok (.invokevirtual 63, 3) := by decide +kernel
theorem dX11_plan_43 : decode cX11_plan 43 = .ok (.aload_n 0, 1) := by decide +kernel
theorem dX11_plan_44 : decode cX11_plan 44 = .ok (.invokevirtual 66, 3) := by decide +kernel
theorem dX11_plan_47 : decode cX11_plan 47 = .ok (.aload_n 0, 1) := by decide +kernel
theorem dX11_plan_48 : decode cX11_plan 48 = .ok (.invokevirtual 107, 3) := by decide +kernel
theorem dX11_plan_51 : decode cX11_plan 51 = .ok (.istore_n 2, 1) := by decide +kernel
theorem dX11_plan_52 : decode cX11_plan 52 = .ok (.iconst 0, 1) := by decide +kernel
theorem dX11_plan_53 : decode cX11_plan 53 = .ok (.istore_n 3, 1) := by decide +kernel
theorem dX11_plan_54 : decode cX11_plan 54 = .ok (.iconst 0, 1) := by decide +kernel
theorem dX11_plan_55 : decode cX11_plan 55 = .ok (.istore 4, 2) := by decide +kernel
theorem dX11_plan_57 : decode cX11_plan 57 = .ok (.iconst 0, 1) := by decide +kernel
theorem dX11_plan_58 : decode cX11_plan 58 = .ok (.istore 5, 2) := by decide +kernel
theorem dX11_plan_60 : decode cX11_plan 60 = .ok (.iload_n 2, 1) := by decide +kernel
theorem dX11_plan_61 : decode cX11_plan 61 = .ok (.ifCond .eq 66, 3) := by decide +kernel
theorem dX11_plan_64 : decode cX11_plan 64 = .ok (.aload_n 0, 1) := by decide +kernel
theorem dX11_plan_65 : decode cX11_plan 65 = .ok (.iload_n 2, 1) := by decide +kernel
theorem dX11_plan_66 : decode cX11_plan 66 = .ok (.invokevirtual 111, 3) := by decide +kernel
theorem dX11_plan_69 : decode cX11_plan 69 = .ok (.istore 6, 2) := by decide +kernel
theorem dX11_plan_71 : decode cX11_plan 71 = .ok (.iload 6, 2) := by decide +kernel
theorem dX11_plan_73 : decode cX11_plan 73 = .ok (.iconst (-1), 1) := by decide +kernel
theorem dX11_plan_74 : decode cX11_plan 74 = .ok (.if_icmp .ne 26, 3) := by decide +kernel
theorem dX11_plan_77 : decode cX11_plan 77 = .ok (.aload_n 0, 1) := by decide +kernel
theorem dX11_plan_78 : decode cX11_plan 78 = .ok (.iload_n 2, 1) := by decide +kernel
theorem dX11_plan_79 : decode cX11_plan 79 = .ok (.iload_n 1, 1) := by decide +kernel
theorem dX11_plan_80 : decode cX11_plan 80 = .ok (.invokevirtual 114, 3) := by decide +kernel
theorem dX11_plan_83 : decode cX11_plan 83 = .ok (.istore 6, 2) := by decide +kernel
theorem dX11_plan_85 : decode cX11_plan 85 = .ok (.iload 4, 2) := by decide +kernel
theorem dX11_plan_87 : decode cX11_plan 87 = .ok (.iconst 1, 1) := by decide +kernel
theorem dX11_plan_88 : decode cX11_plan 88 = .ok (.iload 6, 2) := by decide +kernel
theorem dX11_plan_90 : decode cX11_plan 90 = .ok (.ishl, 1) := by decide +kernel
theorem dX11_plan_91 : decode cX11_plan 91 = .ok (.ior, 1) := by decide +kernel
theorem dX11_plan_92 : decode cX11_plan 92 = .ok (.istore 4, 2) := by decide +kernel
theorem dX11_plan_94 : decode cX11_plan 94 = .ok (.iinc 5 1, 3) := by decide +kernel
theorem dX11_plan_97 : decode cX11_plan 97 = .ok (.goto 18, 3) := by decide +kernel
theorem dX11_plan_100 : decode cX11_plan 100 = .ok (.aload_n 0, 1) := by decide +kernel
theorem dX11_plan_101 : decode cX11_plan 101 = .ok (.getfield 7, 3) := by decide +kernel
theorem dX11_plan_104 : decode cX11_plan 104 = .ok (.sipush 318, 3) := by decide +kernel
theorem dX11_plan_107 : decode cX11_plan 107 = .ok (.iload_n 3, 1) := by decide +kernel
theorem dX11_plan_108 : decode cX11_plan 108 = .ok (.iadd, 1) := by decide +kernel
theorem dX11_plan_109 : decode cX11_plan 109 = .ok (.iload 6, 2) := by decide +kernel
theorem dX11_plan_111 : decode cX11_plan 111 = .ok (.iastore, 1) := by decide +kernel
theorem dX11_plan_112 : decode cX11_plan 112 = .ok (.iinc 3 1, 3) := by decide +kernel
theorem dX11_plan_115 : decode cX11_plan 115 = .ok (.iload_n 2, 1) := by decide +kernel
theorem dX11_plan_116 : decode cX11_plan 116 = .ok (.iconst 1, 1) := by decide +kernel
theorem dX11_plan_117 : decode cX11_plan 117 = .ok (.iload 6, 2) := by decide +kernel
theorem dX11_plan_119 : decode cX11_plan 119 = .ok (.ishl, 1) := by decide +kernel
theorem dX11_plan_120 : decode cX11_plan 120 = .ok (.iconst (-1), 1) := by decide +kernel
theorem dX11_plan_121 : decode cX11_plan 121 = .ok (.ixor, 1) := by decide +kernel
theorem dX11_plan_122 : decode cX11_plan 122 = .ok (.iand, 1) := by decide +kernel
theorem dX11_plan_123 : decode cX11_plan 123 = .ok (.istore_n 2, 1) := by decide +kernel
theorem dX11_plan_124 : decode cX11_plan 124 = .ok (.goto (-64), 3) := by decide +kernel
theorem dX11_plan_127 : decode cX11_plan 127 = .ok (.iconst 0, 1) := by decide +kernel
theorem dX11_plan_128 : decode cX11_plan 128 = .ok (.istore 6, 2) := by decide +kernel
theorem dX11_plan_130 : decode cX11_plan 130 = .ok (.iload 6, 2) := by decide +kernel
theorem dX11_plan_132 : decode cX11_plan 132 = .ok (.aload_n 0, 1) := by decide +kernel
theorem dX11_plan_133 : decode cX11_plan 133 = .ok (.getfield 7, 3) := by decide +kernel
theorem dX11_plan_136 : decode cX11_plan 136 = .ok (.sipush 132, 3) := by decide +kernel
theorem dX11_plan_139 : decode cX11_plan 139 = .ok (.iaload, 1) := by decide +kernel
theorem dX11_plan_140 : decode cX11_plan 140 = .ok (.if_icmp .ge 44, 3) := by decide +kernel
theorem dX11_plan_143 : decode cX11_plan 143 = .ok (.aload_n 0, 1) := by decide +kernel
theorem dX11_plan_144 : decode cX11_plan 144 = .ok (.iload 6, 2) := by decide +kernel
theorem dX11_plan_146 : decode cX11_plan 146 = .ok (.invokevirtual 96, 3) := by decide +kernel
theorem dX11_plan_149 : decode cX11_plan 149 = .ok (.ifCond .eq 14, 3) := by decide +kernel
theorem dX11_plan_152 : decode cX11_plan 152 = .ok (.iload 4, 2) := by decide +kernel
theorem dX11_plan_154 : decode cX11_plan 154 = .ok (.iload 6, 2) := by decide +kernel
theorem dX11_plan_156 : decode cX11_plan 156 = .ok (.ishr, 1) := by decide +kernel
theorem dX11_plan_157 : decode cX11_plan 157 = .ok (.iconst 1, 1) := by decide +kernel
theorem dX11_plan_158 : decode cX11_plan 158 = .ok (.iand, 1) := by decide +kernel
theorem dX11_plan_159 : decode cX11_plan 159 = .ok (.iconst 1, 1) := by decide +kernel
theorem dX11_plan_160 : decode cX11_plan 160 = .ok (.if_icmp .ne 18, 3) := by decide +kernel
theorem dX11_plan_163 : decode cX11_plan 163 = .ok (.aload_n 0, 1) := by decide +kernel
theorem dX11_plan_164 : decode cX11_plan 164 = .ok (.getfield 7, 3) := by decide +kernel
theorem dX11_plan_167 : decode cX11_plan 167 = .ok (.sipush 318, 3) := by decide +kernel
theorem dX11_plan_170 : decode cX11_plan 170 = .ok (.iload_n 3, 1) := by decide +kernel
theorem dX11_plan_171 : decode cX11_plan 171 = .ok (.iadd, 1) := by decide +kernel
theorem dX11_plan_172 : decode cX11_plan 172 = .ok (.iload 6, 2) := by decide +kernel
theorem dX11_plan_174 : decode cX11_plan 174 = .ok (.iastore, 1) := by decide +kernel
theorem dX11_plan_175 : decode cX11_plan 175 = .ok (.iinc 3 1, 3) := by decide +kernel
theorem dX11_plan_178 : decode cX11_plan 178 = .ok (.iinc 6 1, 3) := by decide +kernel
theorem dX11_plan_181 : decode cX11_plan 181 = .ok (.goto (-51), 3) := by decide +kernel
theorem dX11_plan_184 : decode cX11_plan 184 = .ok (.aload_n 0, 1) := by decide +kernel
theorem dX11_plan_185 : decode cX11_plan 185 = .ok (.getfield 7, 3) := by decide +kernel
theorem dX11_plan_188 : decode cX11_plan 188 = .ok (.sipush 348, 3) := by decide +kernel
theorem dX11_plan_191 : decode cX11_plan 191 = .ok (.iload 4, 2) := by decide +kernel
theorem dX11_plan_193 : decode cX11_plan 193 = .ok (.iastore, 1) := by decide +kernel
theorem dX11_plan_194 : decode cX11_plan 194 = .ok (.aload_n 0, 1) := by decide +kernel
theorem dX11_plan_195 : decode cX11_plan 195 = .ok (.getfield 7, 3) := by decide +kernel
theorem dX11_plan_198 : decode cX11_plan 198 = .ok (.sipush 317, 3) := by decide +kernel
theorem dX11_plan_201 : decode cX11_plan 201 = .ok (.iconst 1, 1) := by decide +kernel
theorem dX11_plan_202 : decode cX11_plan 202 = .ok (.iastore, 1) := by decide +kernel
theorem dX11_plan_203 : decode cX11_plan 203 = .ok (.iload 5, 2) := by decide +kernel
theorem dX11_plan_205 : decode cX11_plan 205 = .ok (.ireturn, 1) := by decide +kernel
theorem dX11_isPlanned_0 : decode cX11_isPlanned 0 = .ok (.aload_n 0, 1) := by decide +kernel
theorem dX11_isPlanned_1 : decode cX11_isPlanned 1 = .ok (.getfield 7, 3) := by decide +kernel
theorem dX11_isPlanned_4 : decode cX11_isPlanned 4 = .ok (.sipush 317, 3) := by decide +kernel
theorem dX11_isPlanned_7 : decode cX11_isPlanned 7 = .ok (.iaload, 1) := by decide +kernel
theorem dX11_isPlanned_8 : decode cX11_isPlanned 8 = .ok (.iconst 1, 1) := by decide +kernel
theorem dX11_isPlanned_9 : decode cX11_isPlanned 9 = .ok (.if_icmp .ne 7, 3) := by decide +kernel
theorem dX11_isPlanned_12 : decode cX11_isPlanned 12 = .ok (.iconst 1, 1) := by decide +kernel
theorem dX11_isPlanned_13 : decode cX11_isPlanned 13 = .ok (.goto 4, 3) := by decide +kernel
theorem dX11_isPlanned_16 : decode cX11_isPlanned 16 = .ok (.iconst 0, 1) := by decide +kernel
theorem dX11_isPlanned_17 : decode cX11_isPlanned 17 = .ok (.ireturn, 1) := by decide +kernel
theorem dX11_planned_0 : decode cX11_planned 0 = .ok (.aload_n 0, 1) := by decide +kernel
theorem dX11_planned_1 : decode cX11_planned 1 = .ok (.aload_n 0, 1) := by decide +kernel
theorem dX11_planned_2 : decode cX11_planned 2 = .ok (.invokevirtual 117, 3) := by decide +kernel
theorem dX11_planned_5 : decode cX11_planned 5 = .ok (.iload_n 1, 1) := by decide +kernel
theorem dX11_planned_6 : decode cX11_planned 6 = .ok (.i2l, 1) := by decide +kernel
theorem dX11_planned_7 : decode cX11_planned 7 = .ok (.lconst 0, 1) := by decide +kernel
theorem dX11_planned_8 : decode cX11_planned 8 = .ok (.aload_n 0, 1) := by decide +kernel
theorem dX11_planned_9 : decode cX11_planned 9 = .ok (.getfield 7, 3) := by decide +kernel
theorem dX11_planned_12 : decode cX11_planned 12 = .ok (.sipush 132, 3) := by decide +kernel
theorem dX11_planned_15 : decode cX11_planned 15 = .ok (.iaload, 1) := by decide +kernel
theorem dX11_planned_16 : decode cX11_planned 16 = .ok (.iconst 1, 1) := by decide +kernel
theorem dX11_planned_17 : decode cX11_planned 17 = .ok (.isub, 1) := by decide +kernel
theorem dX11_planned_18 : decode cX11_planned 18 = .ok (.i2l, 1) := by decide +kernel
theorem dX11_planned_19 : decode cX11_planned 19 = .ok (.invokestatic 44, 3) := by decide +kernel
theorem dX11_planned_22 : decode cX11_planned 22 = .ok (.invokevirtual 59, 3) := by decide +kernel
theorem dX11_planned_25 : decode cX11_planned 25 = .ok (.ifCond .eq 16, 3) := by decide +kernel
theorem dX11_planned_28 : decode cX11_planned 28 = .ok (.aload_n 0, 1) := by decide +kernel
theorem dX11_planned_29 : decode cX11_planned 29 = .ok (.getfield 7, 3) := by decide +kernel
theorem dX11_planned_32 : decode cX11_planned 32 = .ok (.sipush 318, 3) := by decide +kernel
theorem dX11_planned_35 : decode cX11_planned 35 = .ok (.iload_n 1, 1) := by decide +kernel
theorem dX11_planned_36 : decode cX11_planned 36 = .ok (.iadd, 1) := by decide +kernel
theorem dX11_planned_37 : decode cX11_planned 37 = .ok (.iaload, 1) := by decide +kernel
theorem dX11_planned_38 : decode cX11_planned 38 = .ok (.goto 4, 3) := by decide +kernel
theorem dX11_planned_41 : decode cX11_planned 41 = .ok (.iconst 0, 1) := by decide +kernel
theorem dX11_planned_42 : decode cX11_planned 42 = .ok (.ireturn, 1) := by decide +kernel
theorem dX11_converted_0 : decode cX11_converted 0 = .ok (.aload_n 0, 1) := by decide +kernel
theorem dX11_converted_1 : decode cX11_converted 1 = .ok (.aload_n 0, 1) := by decide +kernel
theorem dX11_converted_2 : decode cX11_converted 2 = .ok (.invokevirtual 117, 3) := by decide +kernel
theorem dX11_converted_5 : decode cX11_converted 5 = .ok (.iconst 1, 1) := by decide +kernel
theorem dX11_converted_6 : decode cX11_converted 6 = .ok (.invokevirtual 59, 3) := by decide +kernel
theorem dX11_converted_9 : decode cX11_converted 9 = .ok (.ifCond .eq 14, 3) := by decide +kernel
theorem dX11_converted_12 : decode cX11_converted 12 = .ok (.aload_n 0, 1) := by decide +kernel
theorem dX11_converted_13 : decode cX11_converted 13 = .ok (.getfield 7, 3) := by decide +kernel
theorem dX11_converted_16 : decode cX11_converted 16 = .ok (.sipush 348, 3) := by decide +kernel
theorem dX11_converted_19 : decode cX11_converted 19 = .ok (.iaload, 1) := by decide +kernel
theorem dX11_converted_20 : decode cX11_converted 20 = .ok (.goto 4, 3) := by decide +kernel
theorem dX11_converted_23 : decode cX11_converted 23 = .ok (.iconst 0, 1) := by decide +kernel
theorem dX11_converted_24 : decode cX11_converted 24 = .ok (.ireturn, 1) := by decide +kernel
theorem dX11_lossOf_0 : decode cX11_lossOf 0 = .ok (.iconst 0, 1) := by decide +kernel
theorem dX11_lossOf_1 : decode cX11_lossOf 1 = .ok (.istore_n 2, 1) := by decide +kernel
theorem dX11_lossOf_2 : decode cX11_lossOf 2 = .ok (.iconst 0, 1) := by decide +kernel
theorem dX11_lossOf_3 : decode cX11_lossOf 3 = .ok (.istore_n 3, 1) := by decide +kernel
theorem dX11_lossOf_4 : decode cX11_lossOf 4 = .ok (.iload_n 3, 1) := by decide +kernel
theorem dX11_lossOf_5 : decode cX11_lossOf 5 = .ok (.aload_n 0, 1) := by decide +kernel
theorem dX11_lossOf_6 : decode cX11_lossOf 6 = .ok (.getfield 7, 3) := by decide +kernel
theorem dX11_lossOf_9 : decode cX11_lossOf 9 = .ok (.sipush 132, 3) := by decide +kernel
theorem dX11_lossOf_12 : decode cX11_lossOf 12 = .ok (.iaload, 1) := by decide +kernel
theorem dX11_lossOf_13 : decode cX11_lossOf 13 = .ok (.if_icmp .ge 31, 3) := by decide +kernel
theorem dX11_lossOf_16 : decode cX11_lossOf 16 = .ok (.iload_n 2, 1) := by decide +kernel
theorem dX11_lossOf_17 : decode cX11_lossOf 17 = .ok (.iload_n 1, 1) := by decide +kernel
theorem dX11_lossOf_18 : decode cX11_lossOf 18 = .ok (.iload_n 3, 1) := by decide +kernel
theorem dX11_lossOf_19 : decode cX11_lossOf 19 = .ok (.ishr, 1) := by decide +kernel
theorem dX11_lossOf_20 : decode cX11_lossOf 20 = .ok (.iconst 1, 1) := by decide +kernel
theorem dX11_lossOf_21 : decode cX11_lossOf 21 = .ok (.iand, 1) := by decide +kernel
theorem dX11_lossOf_22 : decode cX11_lossOf 22 = .ok (.iconst 1, 1) := by decide +kernel
theorem dX11_lossOf_23 : decode cX11_lossOf 23 = .ok (.if_icmp .ne 12, 3) := by decide +kernel
theorem dX11_lossOf_26 : decode cX11_lossOf 26 = .ok (.aload_n 0, 1) := by decide +kernel
theorem dX11_lossOf_27 : decode cX11_lossOf 27 = .ok (.iload_n 3, 1) := by decide +kernel
theorem dX11_lossOf_28 : decode cX11_lossOf 28 = .ok (.iconst 3, 1) := by decide +kernel
theorem dX11_lossOf_29 : decode cX11_lossOf 29 = .ok (.invokevirtual 77, 3) := by decide +kernel
theorem dX11_lossOf_32 : decode cX11_lossOf 32 = .ok (.goto 4, 3) := by decide +kernel
theorem dX11_lossOf_35 : decode cX11_lossOf 35 = .ok (.iconst 0, 1) := by decide +kernel
theorem dX11_lossOf_36 : decode cX11_lossOf 36 = .ok (.iadd, 1) := by decide +kernel
theorem dX11_lossOf_37 : decode cX11_lossOf 37 = .ok (.istore_n 2, 1) := by decide +kernel
theorem dX11_lossOf_38 : decode cX11_lossOf 38 = .ok (.iinc 3 1, 3) := by decide +kernel
theorem dX11_lossOf_41 : decode cX11_lossOf 41 = .ok (.goto (-37), 3) := by decide +kernel
theorem dX11_lossOf_44 : decode cX11_lossOf 44 = .ok (.iload_n 2, 1) := by decide +kernel
theorem dX11_lossOf_45 : decode cX11_lossOf 45 = .ok (.ireturn, 1) := by decide +kernel
theorem dX11_loss_0 : decode cX11_loss 0 = .ok (.aload_n 0, 1) := by decide +kernel
theorem dX11_loss_1 : decode cX11_loss 1 = .ok (.aload_n 0, 1) := by decide +kernel
theorem dX11_loss_2 : decode cX11_loss 2 = .ok (.invokevirtual 117, 3) := by decide +kernel
theorem dX11_loss_5 : decode cX11_loss 5 = .ok (.iconst 1, 1) := by decide +kernel
theorem dX11_loss_6 : decode cX11_loss 6 = .ok (.invokevirtual 59, 3) := by decide +kernel
theorem dX11_loss_9 : decode cX11_loss 9 = .ok (.ifCond .eq 18, 3) := by decide +kernel
theorem dX11_loss_12 : decode cX11_loss 12 = .ok (.aload_n 0, 1) := by decide +kernel
theorem dX11_loss_13 : decode cX11_loss 13 = .ok (.aload_n 0, 1) := by decide +kernel
theorem dX11_loss_14 : decode cX11_loss 14 = .ok (.getfield 7, 3) := by decide +kernel
theorem dX11_loss_17 : decode cX11_loss 17 = .ok (.sipush 348, 3) := by decide +kernel
theorem dX11_loss_20 : decode cX11_loss 20 = .ok (.iaload, 1) := by decide +kernel
theorem dX11_loss_21 : decode cX11_loss 21 = .ok (.invokevirtual 121, 3) := by decide +kernel
theorem dX11_loss_24 : decode cX11_loss 24 = .ok (.goto 4, 3) := by decide +kernel
theorem dX11_loss_27 : decode cX11_loss 27 = .ok (.iconst 0, 1) := by decide +kernel
theorem dX11_loss_28 : decode cX11_loss 28 = .ok (.ireturn, 1) := by decide +kernel
theorem dX11_isOrderly_0 : decode cX11_isOrderly 0 = .ok (.iload_n 1, 1) := by decide +kernel
theorem dX11_isOrderly_1 : decode cX11_isOrderly 1 = .ok (.istore_n 2, 1) := by decide +kernel
theorem dX11_isOrderly_2 : decode cX11_isOrderly 2 = .ok (.iconst 0, 1) := by decide +kernel
theorem dX11_isOrderly_3 : decode cX11_isOrderly 3 = .ok (.istore_n 3, 1) := by decide +kernel
theorem dX11_isOrderly_4 : decode cX11_isOrderly 4 = .ok (.iload_n 2, 1) := by decide +kernel
theorem dX11_isOrderly_5 : decode cX11_isOrderly 5 = .ok (.iload_n 3, 1) := by decide +kernel
theorem dX11_isOrderly_6 : decode cX11_isOrderly 6 = .ok (.if_icmp .eq 55, 3) := by decide +kernel
theorem dX11_isOrderly_9 : decode cX11_isOrderly 9 = .ok (.iload_n 2, 1) := by decide +kernel
theorem dX11_isOrderly_10 : decode cX11_isOrderly 10 = .ok (.istore_n 3, 1) := by decide +kernel
theorem dX11_isOrderly_11 : decode cX11_isOrderly 11 = .ok (.iconst 0, 1) := by decide +kernel
theorem dX11_isOrderly_12 : decode cX11_isOrderly 12 = .ok (.istore 4, 2) := by decide +kernel
theorem dX11_isOrderly_14 : decode cX11_isOrderly 14 = .ok (.iload 4, 2) := by decide +kernel
theorem dX11_isOrderly_16 : decode cX11_isOrderly 16 = .ok (.aload_n 0, 1) := by decide +kernel
theorem dX11_isOrderly_17 : decode cX11_isOrderly 17 = .ok (.getfield 7, 3) := by decide +kernel
theorem dX11_isOrderly_20 : decode cX11_isOrderly 20 = .ok (.sipush 132, 3) := by decide +kernel
theorem dX11_isOrderly_23 : decode cX11_isOrderly 23 = .ok (.iaload, 1) := by decide +kernel
theorem dX11_isOrderly_24 : decode cX11_isOrderly 24 = .ok (.if_icmp .ge 34, 3) := by decide +kernel
theorem dX11_isOrderly_27 : decode cX11_isOrderly 27 = .ok (.iload_n 2, 1) := by decide +kernel
theorem dX11_isOrderly_28 : decode cX11_isOrderly 28 = .ok (.aload_n 0, 1) := by decide +kernel
theorem dX11_isOrderly_29 : decode cX11_isOrderly 29 = .ok (.getfield 16, 3) := by decide +kernel
theorem dX11_isOrderly_32 : decode cX11_isOrderly 32 = .ok (.iload 4, 2) := by decide +kernel
theorem dX11_isOrderly_34 : decode cX11_isOrderly 34 = .ok (.iaload, 1) := by decide +kernel
theorem dX11_isOrderly_35 : decode cX11_isOrderly 35 = .ok (.iload_n 2, 1) := by decide +kernel
theorem dX11_isOrderly_36 : decode cX11_isOrderly 36 = .ok (.iand, 1) := by decide +kernel
theorem dX11_isOrderly_37 : decode cX11_isOrderly 37 = .ok (.ifCond .ne 12, 3) := by decide +kernel
theorem dX11_isOrderly_40 : decode cX11_isOrderly 40 = .ok (.iconst 1, 1) := by decide +kernel
theorem dX11_isOrderly_41 : decode cX11_isOrderly 41 = .ok (.iload 4, 2) := by decide +kernel
theorem dX11_isOrderly_43 : decode cX11_isOrderly 43 = .ok (.ishl, 1) := by decide +kernel
theorem dX11_isOrderly_44 : decode cX11_isOrderly 44 = .ok (.iconst (-1), 1) := by decide +kernel
theorem dX11_isOrderly_45 : decode cX11_isOrderly 45 = .ok (.ixor, 1) := by decide +kernel
theorem dX11_isOrderly_46 : decode cX11_isOrderly 46 = .ok (.goto 4, 3) := by decide +kernel
theorem dX11_isOrderly_49 : decode cX11_isOrderly 49 = .ok (.iconst (-1), 1) := by decide +kernel
theorem dX11_isOrderly_50 : decode cX11_isOrderly 50 = .ok (.iand, 1) := by decide +kernel
theorem dX11_isOrderly_51 : decode cX11_isOrderly 51 = .ok (.istore_n 2, 1) := by decide +kernel
theorem dX11_isOrderly_52 : decode cX11_isOrderly 52 = .ok (.iinc 4 1, 3) := by decide +kernel
theorem dX11_isOrderly_55 : decode cX11_isOrderly 55 = .ok (.goto (-41), 3) := by decide +kernel
theorem dX11_isOrderly_58 : decode cX11_isOrderly 58 = .ok (.goto (-54), 3) := by decide +kernel
theorem dX11_isOrderly_61 : decode cX11_isOrderly 61 = .ok (.iload_n 2, 1) := by decide +kernel
theorem dX11_isOrderly_62 : decode cX11_isOrderly 62 = .ok (.ifCond .ne 7, 3) := by decide +kernel
theorem dX11_isOrderly_65 : decode cX11_isOrderly 65 = .ok (.iconst 1, 1) := by decide +kernel
theorem dX11_isOrderly_66 : decode cX11_isOrderly 66 = .ok (.goto 4, 3) := by decide +kernel
theorem dX11_isOrderly_69 : decode cX11_isOrderly 69 = .ok (.iconst 0, 1) := by decide +kernel
theorem dX11_isOrderly_70 : decode cX11_isOrderly 70 = .ok (.ireturn, 1) := by decide +kernel
theorem dX11_leastLossOf_0 : decode cX11_leastLossOf 0 = .ok (.iconst 0, 1) := by decide +kernel
theorem dX11_leastLossOf_1 : decode cX11_leastLossOf 1 = .ok (.istore_n 1, 1) := by decide +kernel
theorem dX11_leastLossOf_2 : decode cX11_leastLossOf 2 = .ok (.iload_n 1, 1) := by decide +kernel
theorem dX11_leastLossOf_3 : decode cX11_leastLossOf 3 = .ok (.aload_n 0, 1) := by decide +kernel
theorem dX11_leastLossOf_4 : decode cX11_leastLossOf 4 = .ok (.getfield 7, 3) := by decide +kernel
theorem dX11_leastLossOf_7 : decode cX11_leastLossOf 7 = .ok (.sipush 132, 3) := by decide +kernel
theorem dX11_leastLossOf_10 : decode cX11_leastLossOf 10 = .ok (.iaload, 1) := by decide +kernel
theorem dX11_leastLossOf_11 : decode cX11_leastLossOf 11 = .ok (.if_icmp .ge 61, 3) := by decide +kernel
theorem dX11_leastLossOf_14 : decode cX11_leastLossOf 14 = .ok (.aload_n 0, 1) := by decide +kernel
theorem dX11_leastLossOf_15 : decode cX11_leastLossOf 15 = .ok (.getfield 16, 3) := by decide +kernel
theorem dX11_leastLossOf_18 : decode cX11_leastLossOf 18 = .ok (.iload_n 1, 1) := by decide +kernel
theorem dX11_leastLossOf_19 : decode cX11_leastLossOf 19 = .ok (.iconst 0, 1) := by decide +kernel
theorem dX11_leastLossOf_20 : decode cX11_leastLossOf 20 = .ok (.iastore, 1) := by decide +kernel
theorem dX11_leastLossOf_21 : decode cX11_leastLossOf 21 = .ok (.iconst 0, 1) := by decide +kernel
theorem dX11_leastLossOf_22 : decode cX11_leastLossOf 22 = .ok (.istore_n 2, 1) := by decide +kernel
theorem dX11_leastLossOf_23 : decode cX11_leastLossOf 23 = .ok (.iload_n 2, 1) := by decide +kernel
theorem dX11_leastLossOf_24 : decode cX11_leastLossOf 24 = .ok (.aload_n 0, 1) := by decide +kernel
theorem dX11_leastLossOf_25 : decode cX11_leastLossOf 25 = .ok (.getfield 7, 3) := by decide +kernel
theorem dX11_leastLossOf_28 : decode cX11_leastLossOf 28 = .ok (.sipush 132, 3) := by decide +kernel
theorem dX11_leastLossOf_31 : decode cX11_leastLossOf 31 = .ok (.iaload, 1) := by decide +kernel
theorem dX11_leastLossOf_32 : decode cX11_leastLossOf 32 = .ok (.if_icmp .ge 34, 3) := by decide +kernel
theorem dX11_leastLossOf_35 : decode cX11_leastLossOf 35 = .ok (.aload_n 0, 1) := by decide +kernel
theorem dX11_leastLossOf_36 : decode cX11_leastLossOf 36 = .ok (.getfield 16, 3) := by decide +kernel
theorem dX11_leastLossOf_39 : decode cX11_leastLossOf 39 = .ok (.iload_n 1, 1) := by decide +kernel
theorem dX11_leastLossOf_40 : decode cX11_leastLossOf 40 = .ok (.dup2, 1) := by decide +kernel
theorem dX11_leastLossOf_41 : decode cX11_leastLossOf 41 = .ok (.iaload, 1) := by decide +kernel
theorem dX11_leastLossOf_42 : decode cX11_leastLossOf 42 = .ok (.aload_n 0, 1) := by decide +kernel
theorem dX11_leastLossOf_43 : decode cX11_leastLossOf 43 = .ok (.iload_n 2, 1) := by decide +kernel
theorem dX11_leastLossOf_44 : decode cX11_leastLossOf 44 = .ok (.iload_n 1, 1) := by decide +kernel
theorem dX11_leastLossOf_45 : decode cX11_leastLossOf 45 = .ok (.invokevirtual 99, 3) := by decide +kernel
theorem dX11_leastLossOf_48 : decode cX11_leastLossOf 48 = .ok (.ifCond .eq 9, 3) := by decide +kernel
theorem dX11_leastLossOf_51 : decode cX11_leastLossOf 51 = .ok (.iconst 1, 1) := by decide +kernel
theorem dX11_leastLossOf_52 : decode cX11_leastLossOf 52 = .ok (.iload_n 2, 1) := by decide +kernel
theorem dX11_leastLossOf_53 : decode cX11_leastLossOf 53 = .ok (.ishl, 1) := by decide +kernel
theorem dX11_leastLossOf_54 : decode cX11_leastLossOf 54 = .ok (.goto 4, 3) := by decide +kernel
theorem dX11_leastLossOf_57 : decode cX11_leastLossOf 57 = .ok (.iconst 0, 1) := by decide +kernel
theorem dX11_leastLossOf_58 : decode cX11_leastLossOf 58 = .ok (.ior, 1) := by decide +kernel
theorem dX11_leastLossOf_59 : decode cX11_leastLossOf 59 = .ok (.iastore, 1) := by decide +kernel
theorem dX11_leastLossOf_60 : decode cX11_leastLossOf 60 = .ok (.iinc 2 1, 3) := by decide +kernel
theorem dX11_leastLossOf_63 : decode cX11_leastLossOf 63 = .ok (.goto (-40), 3) := by decide +kernel
theorem dX11_leastLossOf_66 : decode cX11_leastLossOf 66 = .ok (.iinc 1 1, 3) := by decide +kernel
theorem dX11_leastLossOf_69 : decode cX11_leastLossOf 69 = .ok (.goto (-67), 3) := by decide +kernel
theorem dX11_leastLossOf_72 : decode cX11_leastLossOf 72 = .ok (.aload_n 0, 1) := by decide +kernel
theorem dX11_leastLossOf_73 : decode cX11_leastLossOf 73 = .ok (.invokevirtual 107, 3) := by decide +kernel
theorem dX11_leastLossOf_76 : decode cX11_leastLossOf 76 = .ok (.istore_n 1, 1) := by decide +kernel
theorem dX11_leastLossOf_77 : decode cX11_leastLossOf 77 = .ok (.aload_n 0, 1) := by decide +kernel
theorem dX11_leastLossOf_78 : decode cX11_leastLossOf 78 = .ok (.iload_n 1, 1) := by decide +kernel
theorem dX11_leastLossOf_79 : decode cX11_leastLossOf 79 = .ok (.invokevirtual 121, 3) := by decide +kernel
theorem dX11_leastLossOf_82 : decode cX11_leastLossOf 82 = .ok (.istore_n 2, 1) := by decide +kernel
theorem dX11_leastLossOf_83 : decode cX11_leastLossOf 83 = .ok (.iload_n 1, 1) := by decide +kernel
theorem dX11_leastLossOf_84 : decode cX11_leastLossOf 84 = .ok (.istore_n 3, 1) := by decide +kernel
theorem dX11_leastLossOf_85 : decode cX11_leastLossOf 85 = .ok (.iload_n 3, 1) := by decide +kernel
theorem dX11_leastLossOf_86 : decode cX11_leastLossOf 86 = .ok (.ifCond .eq 43, 3) := by decide +kernel
theorem dX11_leastLossOf_89 : decode cX11_leastLossOf 89 = .ok (.iload_n 3, 1) := by decide +kernel
theorem dX11_leastLossOf_90 : decode cX11_leastLossOf 90 = .ok (.iconst 1, 1) := by decide +kernel
theorem dX11_leastLossOf_91 : decode cX11_leastLossOf 91 = .ok (.isub, 1) := by decide +kernel
theorem dX11_leastLossOf_92 : decode cX11_leastLossOf 92 = .ok (.iload_n 1, 1) := by decide +kernel
theorem dX11_leastLossOf_93 : decode cX11_leastLossOf 93 = .ok (.iand, 1) := by decide +kernel
theorem dX11_leastLossOf_94 : decode cX11_leastLossOf 94 = .ok (.istore_n 3, 1) := by decide +kernel
theorem dX11_leastLossOf_95 : decode cX11_leastLossOf 95 = .ok (.aload_n 0, 1) := by decide +kernel
theorem dX11_leastLossOf_96 : decode cX11_leastLossOf 96 = .ok (.iload_n 3, 1) := by decide +kernel
theorem dX11_leastLossOf_97 : decode cX11_leastLossOf 97 = .ok (.invokevirtual 121, 3) := by decide +kernel
theorem dX11_leastLossOf_100 : decode cX11_leastLossOf 100 = .ok (.iload_n 2, 1) := by decide +kernel
theorem dX11_leastLossOf_101 : decode cX11_leastLossOf 101 = .ok (.if_icmp .ge 23, 3) := by decide +kernel
theorem dX11_leastLossOf_104 : decode cX11_leastLossOf 104 = .ok (.aload_n 0, 1) := by decide +kernel
theorem dX11_leastLossOf_105 : decode cX11_leastLossOf 105 = .ok (.iload_n 1, 1) := by decide +kernel
theorem dX11_leastLossOf_106 : decode cX11_leastLossOf 106 = .ok (.iload_n 3, 1) := by decide +kernel
theorem dX11_leastLossOf_107 : decode cX11_leastLossOf 107 = .ok (.iconst (-1), 1) := by decide +kernel
theorem dX11_leastLossOf_108 : decode cX11_leastLossOf 108 = .ok (.ixor, 1) := by decide +kernel
theorem dX11_leastLossOf_109 : decode cX11_leastLossOf 109 = .ok (.iand, 1) := by decide +kernel
theorem dX11_leastLossOf_110 : decode cX11_leastLossOf 110 = .ok (.invokevirtual 124, 3) := by decide +kernel
theorem dX11_leastLossOf_113 : decode cX11_leastLossOf 113 = .ok (.ifCond .eq 11, 3) := by decide +kernel
theorem dX11_leastLossOf_116 : decode cX11_leastLossOf 116 = .ok (.aload_n 0, 1) := by decide +kernel
theorem dX11_leastLossOf_117 : decode cX11_leastLossOf 117 = .ok (.iload_n 3, 1) := by decide +kernel
theorem dX11_leastLossOf_118 : decode cX11_leastLossOf 118 = .ok (.invokevirtual 121, 3) := by decide +kernel
theorem dX11_leastLossOf_121 : decode cX11_leastLossOf 121 = .ok (.goto 4, 3) := by decide +kernel
theorem dX11_leastLossOf_124 : decode cX11_leastLossOf 124 = .ok (.iload_n 2, 1) := by decide +kernel
theorem dX11_leastLossOf_125 : decode cX11_leastLossOf 125 = .ok (.istore_n 2, 1) := by decide +kernel
theorem dX11_leastLossOf_126 : decode cX11_leastLossOf 126 = .ok (.goto (-41), 3) := by decide +kernel
theorem dX11_leastLossOf_129 : decode cX11_leastLossOf 129 = .ok (.iload_n 2, 1) := by decide +kernel
theorem dX11_leastLossOf_130 : decode cX11_leastLossOf 130 = .ok (.ireturn, 1) := by decide +kernel
theorem dX11_leastLoss_0 : decode cX11_leastLoss 0 = .ok (.aload_n 0, 1) := by decide +kernel
theorem dX11_leastLoss_1 : decode cX11_leastLoss 1 = .ok (.iconst 0, 1) := by decide +kernel
theorem dX11_leastLoss_2 : decode cX11_leastLoss 2 = .ok (.putfield 35, 3) := by decide +kernel
theorem dX11_leastLoss_5 : decode cX11_leastLoss 5 = .ok (.aload_n 0, 1) := by decide +kernel
theorem dX11_leastLoss_6 : decode cX11_leastLoss 6 = .ok (.invokevirtual 127, 3) := by decide +kernel
theorem dX11_leastLoss_9 : decode cX11_leastLoss 9 = .ok (.ireturn, 1) := by decide +kernel
theorem dX11_writes_0 : decode cX11_writes 0 = .ok (.aload_n 0, 1) := by decide +kernel
theorem dX11_writes_1 : decode cX11_writes 1 = .ok (.getfield 19, 3) := by decide +kernel
theorem dX11_writes_4 : decode cX11_writes 4 = .ok (.aload_n 0, 1) := by decide +kernel
theorem dX11_writes_5 : decode cX11_writes 5 = .ok (.getfield 130, 3) := by decide +kernel
theorem dX11_writes_8 : decode cX11_writes 8 = .ok (.iload_n 1, 1) := by decide +kernel
theorem dX11_writes_9 : decode cX11_writes 9 = .ok (.iastore, 1) := by decide +kernel
theorem dX11_writes_10 : decode cX11_writes 10 = .ok (.aload_n 0, 1) := by decide +kernel
theorem dX11_writes_11 : decode cX11_writes 11 = .ok (.dup, 1) := by decide +kernel
theorem dX11_writes_12 : decode cX11_writes 12 = .ok (.getfield 130, 3) := by decide +kernel
theorem dX11_writes_15 : decode cX11_writes 15 = .ok (.iconst 1, 1) := by decide +kernel
theorem dX11_writes_16 : decode cX11_writes 16 = .ok (.iadd, 1) := by decide +kernel
theorem dX11_writes_17 : decode cX11_writes 17 = .ok (.putfield 130, 3) := by decide +kernel
theorem dX11_writes_20 : decode cX11_writes 20 = .ok (.return_, 1) := by decide +kernel
theorem dX11_encodes_0 : decode cX11_encodes 0 = .ok (.aload_n 0, 1) := by decide +kernel
theorem dX11_encodes_1 : decode cX11_encodes 1 = .ok (.iconst 0, 1) := by decide +kernel
theorem dX11_encodes_2 : decode cX11_encodes 2 = .ok (.putfield 130, 3) := by decide +kernel
theorem dX11_encodes_5 : decode cX11_encodes 5 = .ok (.aload_n 0, 1) := by decide +kernel
theorem dX11_encodes_6 : decode cX11_encodes 6 = .ok (.bipush 73, 2) := by decide +kernel
theorem dX11_encodes_8 : decode cX11_encodes 8 = .ok (.invokevirtual 133, 3) := by decide +kernel
theorem dX11_encodes_11 : decode cX11_encodes 11 = .ok (.aload_n 0, 1) := by decide +kernel
theorem dX11_encodes_12 : decode cX11_encodes 12 = .ok (.aload_n 0, 1) := by decide +kernel
theorem dX11_encodes_13 : decode cX11_encodes 13 = .ok (.getfield 7, 3) := by decide +kernel
theorem dX11_encodes_16 : decode cX11_encodes 16 = .ok (.sipush 130, 3) := by decide +kernel
theorem dX11_encodes_19 : decode cX11_encodes 19 = .ok (.iaload, 1) := by decide +kernel
theorem dX11_encodes_20 : decode cX11_encodes 20 = .ok (.invokevirtual 133, 3) := by decide +kernel
theorem dX11_encodes_23 : decode cX11_encodes 23 = .ok (.aload_n 0, 1) := by decide +kernel
theorem dX11_encodes_24 : decode cX11_encodes 24 = .ok (.aload_n 0, 1) := by decide +kernel
theorem dX11_encodes_25 : decode cX11_encodes 25 = .ok (.getfield 7, 3) := by decide +kernel
theorem dX11_encodes_28 : decode cX11_encodes 28 = .ok (.sipush 131, 3) := by decide +kernel
theorem dX11_encodes_31 : decode cX11_encodes 31 = .ok (.iaload, 1) := by decide +kernel
theorem dX11_encodes_32 : decode cX11_encodes 32 = .ok (.invokevirtual 133, 3) := by decide +kernel
theorem dX11_encodes_35 : decode cX11_encodes 35 = .ok (.aload_n 0, 1) := by decide +kernel
theorem dX11_encodes_36 : decode cX11_encodes 36 = .ok (.aload_n 0, 1) := by decide +kernel
theorem dX11_encodes_37 : decode cX11_encodes 37 = .ok (.getfield 7, 3) := by decide +kernel
theorem dX11_encodes_40 : decode cX11_encodes 40 = .ok (.sipush 132, 3) := by decide +kernel
theorem dX11_encodes_43 : decode cX11_encodes 43 = .ok (.iaload, 1) := by decide +kernel
theorem dX11_encodes_44 : decode cX11_encodes 44 = .ok (.invokevirtual 133, 3) := by decide +kernel
theorem dX11_encodes_47 : decode cX11_encodes 47 = .ok (.iconst 0, 1) := by decide +kernel
theorem dX11_encodes_48 : decode cX11_encodes 48 = .ok (.istore_n 1, 1) := by decide +kernel
theorem dX11_encodes_49 : decode cX11_encodes 49 = .ok (.iload_n 1, 1) := by decide +kernel
theorem dX11_encodes_50 : decode cX11_encodes 50 = .ok (.aload_n 0, 1) := by decide +kernel
theorem dX11_encodes_51 : decode cX11_encodes 51 = .ok (.getfield 7, 3) := by decide +kernel
theorem dX11_encodes_54 : decode cX11_encodes 54 = .ok (.sipush 132, 3) := by decide +kernel
theorem dX11_encodes_57 : decode cX11_encodes 57 = .ok (.iaload, 1) := by decide +kernel
theorem dX11_encodes_58 : decode cX11_encodes 58 = .ok (.if_icmp .ge 131, 3) := by decide +kernel
theorem dX11_encodes_61 : decode cX11_encodes 61 = .ok (.aload_n 0, 1) := by decide +kernel
theorem dX11_encodes_62 : decode cX11_encodes 62 = .ok (.getfield 7, 3) := by decide +kernel
theorem dX11_encodes_65 : decode cX11_encodes 65 = .ok (.sipush 318, 3) := by decide +kernel
theorem dX11_encodes_68 : decode cX11_encodes 68 = .ok (.iload_n 1, 1) := by decide +kernel
theorem dX11_encodes_69 : decode cX11_encodes 69 = .ok (.iadd, 1) := by decide +kernel
theorem dX11_encodes_70 : decode cX11_encodes 70 = .ok (.iaload, 1) := by decide +kernel
theorem dX11_encodes_71 : decode cX11_encodes 71 = .ok (.istore_n 2, 1) := by decide +kernel
theorem dX11_encodes_72 : decode cX11_encodes 72 = .ok (.aload_n 0, 1) := by decide +kernel
theorem dX11_encodes_73 : decode cX11_encodes 73 = .ok (.iload_n 2, 1) := by decide +kernel
theorem dX11_encodes_74 : decode cX11_encodes 74 = .ok (.invokevirtual 96, 3) := by decide +kernel
theorem dX11_encodes_77 : decode cX11_encodes 77 = .ok (.ifCond .eq 22, 3) := by decide +kernel
theorem dX11_encodes_80 : decode cX11_encodes 80 = .ok (.aload_n 0, 1) := by decide +kernel
theorem dX11_encodes_81 : decode cX11_encodes 81 = .ok (.getfield 7, 3) := by decide +kernel
theorem dX11_encodes_84 : decode cX11_encodes 84 = .ok (.sipush 348, 3) := by decide +kernel
theorem dX11_encodes_87 : decode cX11_encodes 87 = .ok (.iaload, 1) := by decide +kernel
theorem dX11_encodes_88 : decode cX11_encodes 88 = .ok (.iload_n 2, 1) := by decide +kernel
theorem dX11_encodes_89 : decode cX11_encodes 89 = .ok (.ishr, 1) := by decide +kernel
theorem dX11_encodes_90 : decode cX11_encodes 90 = .ok (.iconst 1, 1) := by decide +kernel
theorem dX11_encodes_91 : decode cX11_encodes 91 = .ok (.iand, 1) := by decide +kernel
theorem dX11_encodes_92 : decode cX11_encodes 92 = .ok (.ifCond .ne 7, 3) := by decide +kernel
theorem dX11_encodes_95 : decode cX11_encodes 95 = .ok (.iconst 1, 1) := by decide +kernel
theorem dX11_encodes_96 : decode cX11_encodes 96 = .ok (.goto 4, 3) := by decide +kernel
theorem dX11_encodes_99 : decode cX11_encodes 99 = .ok (.iconst 0, 1) := by decide +kernel
theorem dX11_encodes_100 : decode cX11_encodes 100 = .ok (.istore_n 3, 1) := by decide +kernel
theorem dX11_encodes_101 : decode cX11_encodes 101 = .ok (.aload_n 0, 1) := by decide +kernel
theorem dX11_encodes_102 : decode cX11_encodes 102 = .ok (.iload_n 3, 1) := by decide +kernel
theorem dX11_encodes_103 : decode cX11_encodes 103 = .ok (.ifCond .eq 7, 3) := by decide +kernel
theorem dX11_encodes_106 : decode cX11_encodes 106 = .ok (.iconst 1, 1) := by decide +kernel
theorem dX11_encodes_107 : decode cX11_encodes 107 = .ok (.goto 4, 3) := by decide +kernel
theorem dX11_encodes_110 : decode cX11_encodes 110 = .ok (.iconst 2, 1) := by decide +kernel
theorem dX11_encodes_111 : decode cX11_encodes 111 = .ok (.invokevirtual 133, 3) := by decide +kernel
theorem dX11_encodes_114 : decode cX11_encodes 114 = .ok (.iload_n 3, 1) := by decide +kernel
theorem dX11_encodes_115 : decode cX11_encodes 115 = .ok (.ifCond .eq 13, 3) := by decide +kernel
theorem dX11_encodes_118 : decode cX11_encodes 118 = .ok (.aload_n 0, 1) := by decide +kernel
theorem dX11_encodes_119 : decode cX11_encodes 119 = .ok (.aload_n 0, 1) := by decide +kernel
theorem dX11_encodes_120 : decode cX11_encodes 120 = .ok (.iload_n 2, 1) := by decide +kernel
theorem dX11_encodes_121 : decode cX11_encodes 121 = .ok (.iconst 1, 1) := by decide +kernel
theorem dX11_encodes_122 : decode cX11_encodes 122 = .ok (.invokevirtual 77, 3) := by decide +kernel
theorem dX11_encodes_125 : decode cX11_encodes 125 = .ok (.invokevirtual 133, 3) := by decide +kernel
theorem dX11_encodes_128 : decode cX11_encodes 128 = .ok (.aload_n 0, 1) := by decide +kernel
theorem dX11_encodes_129 : decode cX11_encodes 129 = .ok (.aload_n 0, 1) := by decide +kernel
theorem dX11_encodes_130 : decode cX11_encodes 130 = .ok (.iload_n 2, 1) := by decide +kernel
theorem dX11_encodes_131 : decode cX11_encodes 131 = .ok (.iconst 2, 1) := by decide +kernel
theorem dX11_encodes_132 : decode cX11_encodes 132 = .ok (.invokevirtual 77, 3) := by decide +kernel
theorem dX11_encodes_135 : decode cX11_encodes 135 = .ok (.invokevirtual 133, 3) := by decide +kernel
theorem dX11_encodes_138 : decode cX11_encodes 138 = .ok (.aload_n 0, 1) := by decide +kernel
theorem dX11_encodes_139 : decode cX11_encodes 139 = .ok (.aload_n 0, 1) := by decide +kernel
theorem dX11_encodes_140 : decode cX11_encodes 140 = .ok (.iload_n 2, 1) := by decide +kernel
theorem dX11_encodes_141 : decode cX11_encodes 141 = .ok (.iconst 3, 1) := by decide +kernel
theorem dX11_encodes_142 : decode cX11_encodes 142 = .ok (.invokevirtual 77, 3) := by decide +kernel
theorem dX11_encodes_145 : decode cX11_encodes 145 = .ok (.invokevirtual 133, 3) := by decide +kernel
theorem dX11_encodes_148 : decode cX11_encodes 148 = .ok (.iconst 0, 1) := by decide +kernel
theorem dX11_encodes_149 : decode cX11_encodes 149 = .ok (.istore 4, 2) := by decide +kernel
theorem dX11_encodes_151 : decode cX11_encodes 151 = .ok (.iload 4, 2) := by decide +kernel
theorem dX11_encodes_153 : decode cX11_encodes 153 = .ok (.aload_n 0, 1) := by decide +kernel
theorem dX11_encodes_154 : decode cX11_encodes 154 = .ok (.iload_n 2, 1) := by decide +kernel
theorem dX11_encodes_155 : decode cX11_encodes 155 = .ok (.iconst 3, 1) := by decide +kernel
theorem dX11_encodes_156 : decode cX11_encodes 156 = .ok (.invokevirtual 77, 3) := by decide +kernel
theorem dX11_encodes_159 : decode cX11_encodes 159 = .ok (.if_icmp .ge 24, 3) := by decide +kernel
theorem dX11_encodes_162 : decode cX11_encodes 162 = .ok (.iload_n 3, 1) := by decide +kernel
theorem dX11_encodes_163 : decode cX11_encodes 163 = .ok (.ifCond .ne 20, 3) := by decide +kernel
theorem dX11_encodes_166 : decode cX11_encodes 166 = .ok (.aload_n 0, 1) := by decide +kernel
theorem dX11_encodes_167 : decode cX11_encodes 167 = .ok (.aload_n 0, 1) := by decide +kernel
theorem dX11_encodes_168 : decode cX11_encodes 168 = .ok (.iload_n 2, 1) := by decide +kernel
theorem dX11_encodes_169 : decode cX11_encodes 169 = .ok (.iload 4, 2) := by decide +kernel
theorem dX11_encodes_171 : decode cX11_encodes 171 = .ok (.invokevirtual 137, 3) := by decide +kernel
theorem dX11_encodes_174 : decode cX11_encodes 174 = .ok (.invokevirtual 133, 3) := by decide +kernel
theorem dX11_encodes_177 : decode cX11_encodes 177 = .ok (.iinc 4 1, 3) := by decide +kernel
theorem dX11_encodes_180 : decode cX11_encodes 180 = .ok (.goto (-29), 3) := by decide +kernel
theorem dX11_encodes_183 : decode cX11_encodes 183 = .ok (.iinc 1 1, 3) := by decide +kernel
theorem dX11_encodes_186 : decode cX11_encodes 186 = .ok (.goto (-137), 3) := by decide +kernel
theorem dX11_encodes_189 : decode cX11_encodes 189 = .ok (.iconst 0, 1) := by decide +kernel
theorem dX11_encodes_190 : decode cX11_encodes 190 = .ok (.istore_n 1, 1) := by decide +kernel
theorem dX11_encodes_191 : decode cX11_encodes 191 = .ok (.iconst 0, 1) := by decide +kernel
theorem dX11_encodes_192 : decode cX11_encodes 192 = .ok (.istore_n 2, 1) := by decide +kernel
theorem dX11_encodes_193 : decode cX11_encodes 193 = .ok (.iload_n 2, 1) := by decide +kernel
theorem dX11_encodes_194 : decode cX11_encodes 194 = .ok (.aload_n 0, 1) := by decide +kernel
theorem dX11_encodes_195 : decode cX11_encodes 195 = .ok (.getfield 130, 3) := by decide +kernel
theorem dX11_encodes_198 : decode cX11_encodes 198 = .ok (.if_icmp .ge 18, 3) := by decide +kernel
theorem dX11_encodes_201 : decode cX11_encodes 201 = .ok (.iload_n 1, 1) := by decide +kernel
theorem dX11_encodes_202 : decode cX11_encodes 202 = .ok (.aload_n 0, 1) := by decide +kernel
theorem dX11_encodes_203 : decode cX11_encodes 203 = .ok (.getfield 19, 3) := by decide +kernel
theorem dX11_encodes_206 : decode cX11_encodes 206 = .ok (.iload_n 2, 1) := by decide +kernel
theorem dX11_encodes_207 : decode cX11_encodes 207 = .ok (.iaload, 1) := by decide +kernel
theorem dX11_encodes_208 : decode cX11_encodes 208 = .ok (.iadd, 1) := by decide +kernel
theorem dX11_encodes_209 : decode cX11_encodes 209 = .ok (.istore_n 1, 1) := by decide +kernel
theorem dX11_encodes_210 : decode cX11_encodes 210 = .ok (.iinc 2 1, 3) := by decide +kernel
theorem dX11_encodes_213 : decode cX11_encodes 213 = .ok (.goto (-20), 3) := by decide +kernel
theorem dX11_encodes_216 : decode cX11_encodes 216 = .ok (.aload_n 0, 1) := by decide +kernel
theorem dX11_encodes_217 : decode cX11_encodes 217 = .ok (.iload_n 1, 1) := by decide +kernel
theorem dX11_encodes_218 : decode cX11_encodes 218 = .ok (.sipush 251, 3) := by decide +kernel
theorem dX11_encodes_221 : decode cX11_encodes 221 = .ok (.irem, 1) := by decide +kernel
theorem dX11_encodes_222 : decode cX11_encodes 222 = .ok (.invokevirtual 133, 3) := by decide +kernel
theorem dX11_encodes_225 : decode cX11_encodes 225 = .ok (.return_, 1) := by decide +kernel
theorem dX11_byteFor_0 : decode cX11_byteFor 0 = .ok (.aload_n 0, 1) := by decide +kernel
theorem dX11_byteFor_1 : decode cX11_byteFor 1 = .ok (.iload_n 1, 1) := by decide +kernel
theorem dX11_byteFor_2 : decode cX11_byteFor 2 = .ok (.invokevirtual 96, 3) := by decide +kernel
theorem dX11_byteFor_5 : decode cX11_byteFor 5 = .ok (.ifCond .eq 19, 3) := by decide +kernel
theorem dX11_byteFor_8 : decode cX11_byteFor 8 = .ok (.aload_n 0, 1) := by decide +kernel
theorem dX11_byteFor_9 : decode cX11_byteFor 9 = .ok (.iconst 0, 1) := by decide +kernel
theorem dX11_byteFor_10 : decode cX11_byteFor 10 = .ok (.aload_n 0, 1) := by decide +kernel
theorem dX11_byteFor_11 : decode cX11_byteFor 11 = .ok (.iload_n 1, 1) := by decide +kernel
theorem dX11_byteFor_12 : decode cX11_byteFor 12 = .ok (.iconst 1, 1) := by decide +kernel
theorem dX11_byteFor_13 : decode cX11_byteFor 13 = .ok (.invokevirtual 77, 3) := by decide +kernel
theorem dX11_byteFor_16 : decode cX11_byteFor 16 = .ok (.iload_n 2, 1) := by decide +kernel
theorem dX11_byteFor_17 : decode cX11_byteFor 17 = .ok (.iadd, 1) := by decide +kernel
theorem dX11_byteFor_18 : decode cX11_byteFor 18 = .ok (.invokevirtual 73, 3) := by decide +kernel
theorem dX11_byteFor_21 : decode cX11_byteFor 21 = .ok (.goto 20, 3) := by decide +kernel
theorem dX11_byteFor_24 : decode cX11_byteFor 24 = .ok (.aload_n 0, 1) := by decide +kernel
theorem dX11_byteFor_25 : decode cX11_byteFor 25 = .ok (.getfield 7, 3) := by decide +kernel
theorem dX11_byteFor_28 : decode cX11_byteFor 28 = .ok (.sipush 253, 3) := by decide +kernel
theorem dX11_byteFor_31 : decode cX11_byteFor 31 = .ok (.aload_n 0, 1) := by decide +kernel
theorem dX11_byteFor_32 : decode cX11_byteFor 32 = .ok (.iload_n 1, 1) := by decide +kernel
theorem dX11_byteFor_33 : decode cX11_byteFor 33 = .ok (.iconst 2, 1) := by decide +kernel
theorem dX11_byteFor_34 : decode cX11_byteFor 34 = .ok (.invokevirtual 77, 3) := by decide +kernel
theorem dX11_byteFor_37 : decode cX11_byteFor 37 = .ok (.iadd, 1) := by decide +kernel
theorem dX11_byteFor_38 : decode cX11_byteFor 38 = .ok (.iload_n 2, 1) := by decide +kernel
theorem dX11_byteFor_39 : decode cX11_byteFor 39 = .ok (.iadd, 1) := by decide +kernel
theorem dX11_byteFor_40 : decode cX11_byteFor 40 = .ok (.iaload, 1) := by decide +kernel
theorem dX11_byteFor_41 : decode cX11_byteFor 41 = .ok (.ireturn, 1) := by decide +kernel
theorem dX11_encode_0 : decode cX11_encode 0 = .ok (.aload_n 0, 1) := by decide +kernel
theorem dX11_encode_1 : decode cX11_encode 1 = .ok (.invokevirtual 117, 3) := by decide +kernel
theorem dX11_encode_4 : decode cX11_encode 4 = .ok (.istore_n 1, 1) := by decide +kernel
theorem dX11_encode_5 : decode cX11_encode 5 = .ok (.iload_n 1, 1) := by decide +kernel
theorem dX11_encode_6 : decode cX11_encode 6 = .ok (.ifCond .eq 23, 3) := by decide +kernel
theorem dX11_encode_9 : decode cX11_encode 9 = .ok (.aload_n 0, 1) := by decide +kernel
theorem dX11_encode_10 : decode cX11_encode 10 = .ok (.invokevirtual 140, 3) := by decide +kernel
theorem dX11_encode_13 : decode cX11_encode 13 = .ok (.aload_n 0, 1) := by decide +kernel
theorem dX11_encode_14 : decode cX11_encode 14 = .ok (.getfield 130, 3) := by decide +kernel
theorem dX11_encode_17 : decode cX11_encode 17 = .ok (.sipush 200, 3) := by decide +kernel
theorem dX11_encode_20 : decode cX11_encode 20 = .ok (.if_icmp .gt 7, 3) := by decide +kernel
theorem dX11_encode_23 : decode cX11_encode 23 = .ok (.iconst 1, 1) := by decide +kernel
theorem dX11_encode_24 : decode cX11_encode 24 = .ok (.goto 4, 3) := by decide +kernel
theorem dX11_encode_27 : decode cX11_encode 27 = .ok (.iconst 0, 1) := by decide +kernel
theorem dX11_encode_28 : decode cX11_encode 28 = .ok (.istore_n 1, 1) := by decide +kernel
theorem dX11_encode_29 : decode cX11_encode 29 = .ok (.aload_n 0, 1) := by decide +kernel
theorem dX11_encode_30 : decode cX11_encode 30 = .ok (.iload_n 1, 1) := by decide +kernel
theorem dX11_encode_31 : decode cX11_encode 31 = .ok (.iconst 1, 1) := by decide +kernel
theorem dX11_encode_32 : decode cX11_encode 32 = .ok (.invokevirtual 59, 3) := by decide +kernel
theorem dX11_encode_35 : decode cX11_encode 35 = .ok (.ifCond .ne 5, 3) := by decide +kernel
theorem dX11_encode_38 : decode cX11_encode 38 = .ok (.iconst 0, 1) := by decide +kernel
theorem dX11_encode_39 : decode cX11_encode 39 = .ok (.ireturn, 1) := by decide +kernel
theorem dX11_encode_40 : decode cX11_encode 40 = .ok (.aload_n 0, 1) := by decide +kernel
theorem dX11_encode_41 : decode cX11_encode 41 = .ok (.invokevirtual 63, 3) := by decide +kernel
theorem dX11_encode_44 : decode cX11_encode 44 = .ok (.iconst 0, 1) := by decide +kernel
theorem dX11_encode_45 : decode cX11_encode 45 = .ok (.istore_n 2, 1) := by decide +kernel
theorem dX11_encode_46 : decode cX11_encode 46 = .ok (.iload_n 2, 1) := by decide +kernel
theorem dX11_encode_47 : decode cX11_encode 47 = .ok (.aload_n 0, 1) := by decide +kernel
theorem dX11_encode_48 : decode cX11_encode 48 = .ok (.getfield 130, 3) := by decide +kernel
theorem dX11_encode_51 : decode cX11_encode 51 = .ok (.if_icmp .ge 25, 3) := by decide +kernel
theorem dX11_encode_54 : decode cX11_encode 54 = .ok (.aload_n 0, 1) := by decide +kernel
theorem dX11_encode_55 : decode cX11_encode 55 = .ok (.getfield 7, 3) := by decide +kernel
theorem dX11_encode_58 : decode cX11_encode 58 = .ok (.sipush 350, 3) := by decide +kernel
theorem dX11_encode_61 : decode cX11_encode 61 = .ok (.iload_n 2, 1) := by decide +kernel
theorem dX11_encode_62 : decode cX11_encode 62 = .ok (.iadd, 1) := by decide +kernel
theorem dX11_encode_63 : decode cX11_encode 63 = .ok (.aload_n 0, 1) := by decide +kernel
theorem dX11_encode_64 : decode cX11_encode 64 = .ok (.getfield 19, 3) := by decide +kernel
theorem dX11_encode_67 : decode cX11_encode 67 = .ok (.iload_n 2, 1) := by decide +kernel
theorem dX11_encode_68 : decode cX11_encode 68 = .ok (.iaload, 1) := by decide +kernel
theorem dX11_encode_69 : decode cX11_encode 69 = .ok (.iastore, 1) := by decide +kernel
theorem dX11_encode_70 : decode cX11_encode 70 = .ok (.iinc 2 1, 3) := by decide +kernel
theorem dX11_encode_73 : decode cX11_encode 73 = .ok (.goto (-27), 3) := by decide +kernel
theorem dX11_encode_76 : decode cX11_encode 76 = .ok (.aload_n 0, 1) := by decide +kernel
theorem dX11_encode_77 : decode cX11_encode 77 = .ok (.getfield 7, 3) := by decide +kernel
theorem dX11_encode_80 : decode cX11_encode 80 = .ok (.sipush 349, 3) := by decide +kernel
theorem dX11_encode_83 : decode cX11_encode 83 = .ok (.aload_n 0, 1) := by decide +kernel
theorem dX11_encode_84 : decode cX11_encode 84 = .ok (.getfield 130, 3) := by decide +kernel
theorem dX11_encode_87 : decode cX11_encode 87 = .ok (.iastore, 1) := by decide +kernel
theorem dX11_encode_88 : decode cX11_encode 88 = .ok (.aload_n 0, 1) := by decide +kernel
theorem dX11_encode_89 : decode cX11_encode 89 = .ok (.getfield 130, 3) := by decide +kernel
theorem dX11_encode_92 : decode cX11_encode 92 = .ok (.ireturn, 1) := by decide +kernel
theorem dX11_write_0 : decode cX11_write 0 = .ok (.aload_n 0, 1) := by decide +kernel
theorem dX11_write_1 : decode cX11_write 1 = .ok (.iload_n 1, 1) := by decide +kernel
theorem dX11_write_2 : decode cX11_write 2 = .ok (.invokestatic 52, 3) := by decide +kernel
theorem dX11_write_5 : decode cX11_write 5 = .ok (.aload_n 0, 1) := by decide +kernel
theorem dX11_write_6 : decode cX11_write 6 = .ok (.getfield 7, 3) := by decide +kernel
theorem dX11_write_9 : decode cX11_write 9 = .ok (.sipush 349, 3) := by decide +kernel
theorem dX11_write_12 : decode cX11_write 12 = .ok (.iaload, 1) := by decide +kernel
theorem dX11_write_13 : decode cX11_write 13 = .ok (.sipush 200, 3) := by decide +kernel
theorem dX11_write_16 : decode cX11_write 16 = .ok (.if_icmp .ge 7, 3) := by decide +kernel
theorem dX11_write_19 : decode cX11_write 19 = .ok (.iconst 1, 1) := by decide +kernel
theorem dX11_write_20 : decode cX11_write 20 = .ok (.goto 4, 3) := by decide +kernel
theorem dX11_write_23 : decode cX11_write 23 = .ok (.iconst 0, 1) := by decide +kernel
theorem dX11_write_24 : decode cX11_write 24 = .ok (.invokevirtual 59, 3) := by decide +kernel
theorem dX11_write_27 : decode cX11_write 27 = .ok (.ifCond .ne 5, 3) := by decide +kernel
theorem dX11_write_30 : decode cX11_write 30 = .ok (.iconst 0, 1) := by decide +kernel
theorem dX11_write_31 : decode cX11_write 31 = .ok (.ireturn, 1) := by decide +kernel
theorem dX11_write_32 : decode cX11_write 32 = .ok (.aload_n 0, 1) := by decide +kernel
theorem dX11_write_33 : decode cX11_write 33 = .ok (.invokevirtual 63, 3) := by decide +kernel
theorem dX11_write_36 : decode cX11_write 36 = .ok (.aload_n 0, 1) := by decide +kernel
theorem dX11_write_37 : decode cX11_write 37 = .ok (.getfield 7, 3) := by decide +kernel
theorem dX11_write_40 : decode cX11_write 40 = .ok (.sipush 350, 3) := by decide +kernel
theorem dX11_write_43 : decode cX11_write 43 = .ok (.aload_n 0, 1) := by decide +kernel
theorem dX11_write_44 : decode cX11_write 44 = .ok (.getfield 7, 3) := by decide +kernel
theorem dX11_write_47 : decode cX11_write 47 = .ok (.sipush 349, 3) := by decide +kernel
theorem dX11_write_50 : decode cX11_write 50 = .ok (.iaload, 1) := by decide +kernel
theorem dX11_write_51 : decode cX11_write 51 = .ok (.iadd, 1) := by decide +kernel
theorem dX11_write_52 : decode cX11_write 52 = .ok (.iload_n 1, 1) := by decide +kernel
theorem dX11_write_53 : decode cX11_write 53 = .ok (.iastore, 1) := by decide +kernel
theorem dX11_write_54 : decode cX11_write 54 = .ok (.aload_n 0, 1) := by decide +kernel
theorem dX11_write_55 : decode cX11_write 55 = .ok (.getfield 7, 3) := by decide +kernel
theorem dX11_write_58 : decode cX11_write 58 = .ok (.sipush 349, 3) := by decide +kernel
theorem dX11_write_61 : decode cX11_write 61 = .ok (.dup2, 1) := by decide +kernel
theorem dX11_write_62 : decode cX11_write 62 = .ok (.iaload, 1) := by decide +kernel
theorem dX11_write_63 : decode cX11_write 63 = .ok (.iconst 1, 1) := by decide +kernel
theorem dX11_write_64 : decode cX11_write 64 = .ok (.iadd, 1) := by decide +kernel
theorem dX11_write_65 : decode cX11_write 65 = .ok (.iastore, 1) := by decide +kernel
theorem dX11_write_66 : decode cX11_write 66 = .ok (.aload_n 0, 1) := by decide +kernel
theorem dX11_write_67 : decode cX11_write 67 = .ok (.getfield 7, 3) := by decide +kernel
theorem dX11_write_70 : decode cX11_write 70 = .ok (.sipush 349, 3) := by decide +kernel
theorem dX11_write_73 : decode cX11_write 73 = .ok (.iaload, 1) := by decide +kernel
theorem dX11_write_74 : decode cX11_write 74 = .ok (.ireturn, 1) := by decide +kernel
theorem dX11_clearCode_0 : decode cX11_clearCode 0 = .ok (.aload_n 0, 1) := by decide +kernel
theorem dX11_clearCode_1 : decode cX11_clearCode 1 = .ok (.iconst 0, 1) := by decide +kernel
theorem dX11_clearCode_2 : decode cX11_clearCode 2 = .ok (.putfield 35, 3) := by decide +kernel
theorem dX11_clearCode_5 : decode cX11_clearCode 5 = .ok (.aload_n 0, 1) := by decide +kernel
theorem dX11_clearCode_6 : decode cX11_clearCode 6 = .ok (.invokevirtual 63, 3) := by decide +kernel
theorem dX11_clearCode_9 : decode cX11_clearCode 9 = .ok (.aload_n 0, 1) := by decide +kernel
theorem dX11_clearCode_10 : decode cX11_clearCode 10 = .ok (.getfield 7, 3) := by decide +kernel
theorem dX11_clearCode_13 : decode cX11_clearCode 13 = .ok (.sipush 349, 3) := by decide +kernel
theorem dX11_clearCode_16 : decode cX11_clearCode 16 = .ok (.iaload, 1) := by decide +kernel
theorem dX11_clearCode_17 : decode cX11_clearCode 17 = .ok (.istore_n 1, 1) := by decide +kernel
theorem dX11_clearCode_18 : decode cX11_clearCode 18 = .ok (.aload_n 0, 1) := by decide +kernel
theorem dX11_clearCode_19 : decode cX11_clearCode 19 = .ok (.getfield 7, 3) := by decide +kernel
theorem dX11_clearCode_22 : decode cX11_clearCode 22 = .ok (.sipush 349, 3) := by decide +kernel
theorem dX11_clearCode_25 : decode cX11_clearCode 25 = .ok (.iconst 0, 1) := by decide +kernel
theorem dX11_clearCode_26 : decode cX11_clearCode 26 = .ok (.iastore, 1) := by decide +kernel
theorem dX11_clearCode_27 : decode cX11_clearCode 27 = .ok (.iload_n 1, 1) := by decide +kernel
theorem dX11_clearCode_28 : decode cX11_clearCode 28 = .ok (.ireturn, 1) := by decide +kernel
theorem dX11_code_0 : decode cX11_code 0 = .ok (.aload_n 0, 1) := by decide +kernel
theorem dX11_code_1 : decode cX11_code 1 = .ok (.iload_n 1, 1) := by decide +kernel
theorem dX11_code_2 : decode cX11_code 2 = .ok (.iconst (-1), 1) := by decide +kernel
theorem dX11_code_3 : decode cX11_code 3 = .ok (.if_icmp .lt 7, 3) := by decide +kernel
theorem dX11_code_6 : decode cX11_code 6 = .ok (.iconst 1, 1) := by decide +kernel
theorem dX11_code_7 : decode cX11_code 7 = .ok (.goto 4, 3) := by decide +kernel
theorem dX11_code_10 : decode cX11_code 10 = .ok (.iconst 0, 1) := by decide +kernel
theorem dX11_code_11 : decode cX11_code 11 = .ok (.iconst 1, 1) := by decide +kernel
theorem dX11_code_12 : decode cX11_code 12 = .ok (.invokevirtual 59, 3) := by decide +kernel
theorem dX11_code_15 : decode cX11_code 15 = .ok (.ifCond .ne 5, 3) := by decide +kernel
theorem dX11_code_18 : decode cX11_code 18 = .ok (.iconst 0, 1) := by decide +kernel
theorem dX11_code_19 : decode cX11_code 19 = .ok (.ireturn, 1) := by decide +kernel
theorem dX11_code_20 : decode cX11_code 20 = .ok (.iload_n 1, 1) := by decide +kernel
theorem dX11_code_21 : decode cX11_code 21 = .ok (.iconst (-1), 1) := by decide +kernel
theorem dX11_code_22 : decode cX11_code 22 = .ok (.if_icmp .ne 14, 3) := by decide +kernel
theorem dX11_code_25 : decode cX11_code 25 = .ok (.aload_n 0, 1) := by decide +kernel
theorem dX11_code_26 : decode cX11_code 26 = .ok (.getfield 7, 3) := by decide +kernel
theorem dX11_code_29 : decode cX11_code 29 = .ok (.sipush 349, 3) := by decide +kernel
theorem dX11_code_32 : decode cX11_code 32 = .ok (.iaload, 1) := by decide +kernel
theorem dX11_code_33 : decode cX11_code 33 = .ok (.goto 29, 3) := by decide +kernel
theorem dX11_code_36 : decode cX11_code 36 = .ok (.iload_n 1, 1) := by decide +kernel
theorem dX11_code_37 : decode cX11_code 37 = .ok (.aload_n 0, 1) := by decide +kernel
theorem dX11_code_38 : decode cX11_code 38 = .ok (.getfield 7, 3) := by decide +kernel
theorem dX11_code_41 : decode cX11_code 41 = .ok (.sipush 349, 3) := by decide +kernel
theorem dX11_code_44 : decode cX11_code 44 = .ok (.iaload, 1) := by decide +kernel
theorem dX11_code_45 : decode cX11_code 45 = .ok (.if_icmp .ge 16, 3) := by decide +kernel
theorem dX11_code_48 : decode cX11_code 48 = .ok (.aload_n 0, 1) := by decide +kernel
theorem dX11_code_49 : decode cX11_code 49 = .ok (.getfield 7, 3) := by decide +kernel
theorem dX11_code_52 : decode cX11_code 52 = .ok (.sipush 350, 3) := by decide +kernel
theorem dX11_code_55 : decode cX11_code 55 = .ok (.iload_n 1, 1) := by decide +kernel
theorem dX11_code_56 : decode cX11_code 56 = .ok (.iadd, 1) := by decide +kernel
theorem dX11_code_57 : decode cX11_code 57 = .ok (.iaload, 1) := by decide +kernel
theorem dX11_code_58 : decode cX11_code 58 = .ok (.goto 4, 3) := by decide +kernel
theorem dX11_code_61 : decode cX11_code 61 = .ok (.iconst (-1), 1) := by decide +kernel
theorem dX11_code_62 : decode cX11_code 62 = .ok (.ireturn, 1) := by decide +kernel
theorem dX11_next_0 : decode cX11_next 0 = .ok (.aload_n 0, 1) := by decide +kernel
theorem dX11_next_1 : decode cX11_next 1 = .ok (.getfield 143, 3) := by decide +kernel
theorem dX11_next_4 : decode cX11_next 4 = .ok (.iconst (-1), 1) := by decide +kernel
theorem dX11_next_5 : decode cX11_next 5 = .ok (.if_icmp .eq 5, 3) := by decide +kernel
theorem dX11_next_8 : decode cX11_next 8 = .ok (.iconst 0, 1) := by decide +kernel
theorem dX11_next_9 : decode cX11_next 9 = .ok (.ireturn, 1) := by decide +kernel
theorem dX11_next_10 : decode cX11_next 10 = .ok (.aload_n 0, 1) := by decide +kernel
theorem dX11_next_11 : decode cX11_next 11 = .ok (.getfield 146, 3) := by decide +kernel
theorem dX11_next_14 : decode cX11_next 14 = .ok (.aload_n 0, 1) := by decide +kernel
theorem dX11_next_15 : decode cX11_next 15 = .ok (.getfield 7, 3) := by decide +kernel
theorem dX11_next_18 : decode cX11_next 18 = .ok (.sipush 349, 3) := by decide +kernel
theorem dX11_next_21 : decode cX11_next 21 = .ok (.iaload, 1) := by decide +kernel
theorem dX11_next_22 : decode cX11_next 22 = .ok (.if_icmp .ne 13, 3) := by decide +kernel
theorem dX11_next_25 : decode cX11_next 25 = .ok (.aload_n 0, 1) := by decide +kernel
theorem dX11_next_26 : decode cX11_next 26 = .ok (.aload_n 0, 1) := by decide +kernel
theorem dX11_next_27 : decode cX11_next 27 = .ok (.getfield 146, 3) := by decide +kernel
theorem dX11_next_30 : decode cX11_next 30 = .ok (.putfield 143, 3) := by decide +kernel
theorem dX11_next_33 : decode cX11_next 33 = .ok (.iconst 0, 1) := by decide +kernel
theorem dX11_next_34 : decode cX11_next 34 = .ok (.ireturn, 1) := by decide +kernel
theorem dX11_next_35 : decode cX11_next 35 = .ok (.aload_n 0, 1) := by decide +kernel
theorem dX11_next_36 : decode cX11_next 36 = .ok (.dup, 1) := by decide +kernel
theorem dX11_next_37 : decode cX11_next 37 = .ok (.getfield 146, 3) := by decide +kernel
theorem dX11_next_40 : decode cX11_next 40 = .ok (.iconst 1, 1) := by decide +kernel
theorem dX11_next_41 : decode cX11_next 41 = .ok (.iadd, 1) := by decide +kernel
theorem dX11_next_42 : decode cX11_next 42 = .ok (.putfield 146, 3) := by decide +kernel
theorem dX11_next_45 : decode cX11_next 45 = .ok (.aload_n 0, 1) := by decide +kernel
theorem dX11_next_46 : decode cX11_next 46 = .ok (.getfield 7, 3) := by decide +kernel
theorem dX11_next_49 : decode cX11_next 49 = .ok (.sipush 350, 3) := by decide +kernel
theorem dX11_next_52 : decode cX11_next 52 = .ok (.aload_n 0, 1) := by decide +kernel
theorem dX11_next_53 : decode cX11_next 53 = .ok (.getfield 146, 3) := by decide +kernel
theorem dX11_next_56 : decode cX11_next 56 = .ok (.iadd, 1) := by decide +kernel
theorem dX11_next_57 : decode cX11_next 57 = .ok (.iconst 1, 1) := by decide +kernel
theorem dX11_next_58 : decode cX11_next 58 = .ok (.isub, 1) := by decide +kernel
theorem dX11_next_59 : decode cX11_next 59 = .ok (.iaload, 1) := by decide +kernel
theorem dX11_next_60 : decode cX11_next 60 = .ok (.ireturn, 1) := by decide +kernel
theorem dX11_mustBe_0 : decode cX11_mustBe 0 = .ok (.aload_n 0, 1) := by decide +kernel
theorem dX11_mustBe_1 : decode cX11_mustBe 1 = .ok (.aload_n 0, 1) := by decide +kernel
theorem dX11_mustBe_2 : decode cX11_mustBe 2 = .ok (.getfield 143, 3) := by decide +kernel
theorem dX11_mustBe_5 : decode cX11_mustBe 5 = .ok (.iconst (-1), 1) := by decide +kernel
theorem dX11_mustBe_6 : decode cX11_mustBe 6 = .ok (.if_icmp .ne 11, 3) := by decide +kernel
theorem dX11_mustBe_9 : decode cX11_mustBe 9 = .ok (.iload_n 1, 1) := by decide +kernel
theorem dX11_mustBe_10 : decode cX11_mustBe 10 = .ok (.ifCond .ne 7, 3) := by decide +kernel
theorem dX11_mustBe_13 : decode cX11_mustBe 13 = .ok (.iload_n 2, 1) := by decide +kernel
theorem dX11_mustBe_14 : decode cX11_mustBe 14 = .ok (.goto 7, 3) := by decide +kernel
theorem dX11_mustBe_17 : decode cX11_mustBe 17 = .ok (.aload_n 0, 1) := by decide +kernel
theorem dX11_mustBe_18 : decode cX11_mustBe 18 = .ok (.getfield 143, 3) := by decide +kernel
theorem dX11_mustBe_21 : decode cX11_mustBe 21 = .ok (.putfield 143, 3) := by decide +kernel
theorem dX11_mustBe_24 : decode cX11_mustBe 24 = .ok (.return_, 1) := by decide +kernel
theorem dX11_number_0 : decode cX11_number 0 = .ok (.aload_n 0, 1) := by decide +kernel
theorem dX11_number_1 : decode cX11_number 1 = .ok (.invokevirtual 149, 3) := by decide +kernel
theorem dX11_number_4 : decode cX11_number 4 = .ok (.istore_n 3, 1) := by decide +kernel
theorem dX11_number_5 : decode cX11_number 5 = .ok (.aload_n 0, 1) := by decide +kernel
theorem dX11_number_6 : decode cX11_number 6 = .ok (.iload_n 3, 1) := by decide +kernel
theorem dX11_number_7 : decode cX11_number 7 = .ok (.i2l, 1) := by decide +kernel
theorem dX11_number_8 : decode cX11_number 8 = .ok (.iload_n 1, 1) := by decide +kernel
theorem dX11_number_9 : decode cX11_number 9 = .ok (.i2l, 1) := by decide +kernel
theorem dX11_number_10 : decode cX11_number 10 = .ok (.iload_n 2, 1) := by decide +kernel
theorem dX11_number_11 : decode cX11_number 11 = .ok (.i2l, 1) := by decide +kernel
theorem dX11_number_12 : decode cX11_number 12 = .ok (.invokestatic 44, 3) := by decide +kernel
theorem dX11_number_15 : decode cX11_number 15 = .ok (.aload_n 0, 1) := by decide +kernel
theorem dX11_number_16 : decode cX11_number 16 = .ok (.getfield 146, 3) := by decide +kernel
theorem dX11_number_19 : decode cX11_number 19 = .ok (.iconst 1, 1) := by decide +kernel
theorem dX11_number_20 : decode cX11_number 20 = .ok (.isub, 1) := by decide +kernel
theorem dX11_number_21 : decode cX11_number 21 = .ok (.invokevirtual 152, 3) := by decide +kernel
theorem dX11_number_24 : decode cX11_number 24 = .ok (.iload_n 3, 1) := by decide +kernel
theorem dX11_number_25 : decode cX11_number 25 = .ok (.ireturn, 1) := by decide +kernel
theorem dX11_readsCommand_0 : decode cX11_readsCommand 0 = .ok (.aload_n 0, 1) := by decide +kernel
theorem dX11_readsCommand_1 : decode cX11_readsCommand 1 = .ok (.invokevirtual 149, 3) := by decide +kernel
theorem dX11_readsCommand_4 : decode cX11_readsCommand 4 = .ok (.istore 4, 2) := by decide +kernel
theorem dX11_readsCommand_6 : decode cX11_readsCommand 6 = .ok (.aload_n 0, 1) := by decide +kernel
theorem dX11_readsCommand_7 : decode cX11_readsCommand 7 = .ok (.iload 4, 2) := by decide +kernel
theorem dX11_readsCommand_9 : decode cX11_readsCommand 9 = .ok (.iconst 2, 1) := by decide +kernel
theorem dX11_readsCommand_10 : decode cX11_readsCommand 10 = .ok (.if_icmp .eq 18, 3) := by decide +kernel
theorem dX11_readsCommand_13 : decode cX11_readsCommand 13 = .ok (.iload 4, 2) := by decide +kernel
theorem dX11_readsCommand_15 : decode cX11_readsCommand 15 = .ok (.iconst 1, 1) := by decide +kernel
theorem dX11_readsCommand_16 : decode cX11_readsCommand 16 = .ok (.if_icmp .ne 16, 3) := by decide +kernel
theorem dX11_readsCommand_19 : decode cX11_readsCommand 19 = .ok (.aload_n 0, 1) := by decide +kernel
theorem dX11_readsCommand_20 : decode cX11_readsCommand 20 = .ok (.getfield 156, 3) := by decide +kernel
theorem dX11_readsCommand_23 : decode cX11_readsCommand 23 = .ok (.bipush 12, 2) := by decide +kernel
theorem dX11_readsCommand_25 : decode cX11_readsCommand 25 = .ok (.if_icmp .ge 7, 3) := by decide +kernel
theorem dX11_readsCommand_28 : decode cX11_readsCommand 28 = .ok (.iconst 1, 1) := by decide +kernel
theorem dX11_readsCommand_29 : decode cX11_readsCommand 29 = .ok (.goto 4, 3) := by decide +kernel
theorem dX11_readsCommand_32 : decode cX11_readsCommand 32 = .ok (.iconst 0, 1) := by decide +kernel
theorem dX11_readsCommand_33 : decode cX11_readsCommand 33 = .ok (.aload_n 0, 1) := by decide +kernel
theorem dX11_readsCommand_34 : decode cX11_readsCommand 34 = .ok (.getfield 146, 3) := by decide +kernel
theorem dX11_readsCommand_37 : decode cX11_readsCommand 37 = .ok (.iconst 1, 1) := by decide +kernel
theorem dX11_readsCommand_38 : decode cX11_readsCommand 38 = .ok (.isub, 1) := by decide +kernel
theorem dX11_readsCommand_39 : decode cX11_readsCommand 39 = .ok (.invokevirtual 152, 3) := by decide +kernel
theorem dX11_readsCommand_42 : decode cX11_readsCommand 42 = .ok (.aload_n 0, 1) := by decide +kernel
theorem dX11_readsCommand_43 : decode cX11_readsCommand 43 = .ok (.dup, 1) := by decide +kernel
theorem dX11_readsCommand_44 : decode cX11_readsCommand 44 = .ok (.getfield 156, 3) := by decide +kernel
theorem dX11_readsCommand_47 : decode cX11_readsCommand 47 = .ok (.iload 4, 2) := by decide +kernel
theorem dX11_readsCommand_49 : decode cX11_readsCommand 49 = .ok (.iconst 1, 1) := by decide +kernel
theorem dX11_readsCommand_50 : decode cX11_readsCommand 50 = .ok (.if_icmp .ne 7, 3) := by decide +kernel
theorem dX11_readsCommand_53 : decode cX11_readsCommand 53 = .ok (.iconst 1, 1) := by decide +kernel
theorem dX11_readsCommand_54 : decode cX11_readsCommand 54 = .ok (.goto 4, 3) := by decide +kernel
theorem dX11_readsCommand_57 : decode cX11_readsCommand 57 = .ok (.iconst 0, 1) := by decide +kernel
theorem dX11_readsCommand_58 : decode cX11_readsCommand 58 = .ok (.iadd, 1) := by decide +kernel
theorem dX11_readsCommand_59 : decode cX11_readsCommand 59 = .ok (.putfield 156, 3) := by decide +kernel
theorem dX11_readsCommand_62 : decode cX11_readsCommand 62 = .ok (.iload 4, 2) := by decide +kernel
theorem dX11_readsCommand_64 : decode cX11_readsCommand 64 = .ok (.iconst 1, 1) := by decide +kernel
theorem dX11_readsCommand_65 : decode cX11_readsCommand 65 = .ok (.if_icmp .ne 21, 3) := by decide +kernel
theorem dX11_readsCommand_68 : decode cX11_readsCommand 68 = .ok (.aload_n 0, 1) := by decide +kernel
theorem dX11_readsCommand_69 : decode cX11_readsCommand 69 = .ok (.getfield 143, 3) := by decide +kernel
theorem dX11_readsCommand_72 : decode cX11_readsCommand 72 = .ok (.iconst (-1), 1) := by decide +kernel
theorem dX11_readsCommand_73 : decode cX11_readsCommand 73 = .ok (.if_icmp .ne 13, 3) := by decide +kernel
theorem dX11_readsCommand_76 : decode cX11_readsCommand 76 = .ok (.aload_n 0, 1) := by decide +kernel
theorem dX11_readsCommand_77 : decode cX11_readsCommand 77 = .ok (.iconst 0, 1) := by decide +kernel
theorem dX11_readsCommand_78 : decode cX11_readsCommand 78 = .ok (.bipush 64, 2) := by decide +kernel
theorem dX11_readsCommand_80 : decode cX11_readsCommand 80 = .ok (.invokevirtual 159, 3) := by decide +kernel
theorem dX11_readsCommand_83 : decode cX11_readsCommand 83 = .ok (.goto 4, 3) := by decide +kernel
theorem dX11_readsCommand_86 : decode cX11_readsCommand 86 = .ok (.iconst (-1), 1) := by decide +kernel
theorem dX11_readsCommand_87 : decode cX11_readsCommand 87 = .ok (.istore 5, 2) := by decide +kernel
theorem dX11_readsCommand_89 : decode cX11_readsCommand 89 = .ok (.aload_n 0, 1) := by decide +kernel
theorem dX11_readsCommand_90 : decode cX11_readsCommand 90 = .ok (.iconst 0, 1) := by decide +kernel
theorem dX11_readsCommand_91 : decode cX11_readsCommand 91 = .ok (.bipush 64, 2) := by decide +kernel
theorem dX11_readsCommand_93 : decode cX11_readsCommand 93 = .ok (.invokevirtual 159, 3) := by decide +kernel
theorem dX11_readsCommand_96 : decode cX11_readsCommand 96 = .ok (.istore 6, 2) := by decide +kernel
theorem dX11_readsCommand_98 : decode cX11_readsCommand 98 = .ok (.aload_n 0, 1) := by decide +kernel
theorem dX11_readsCommand_99 : decode cX11_readsCommand 99 = .ok (.getfield 146, 3) := by decide +kernel
theorem dX11_readsCommand_102 : decode cX11_readsCommand 102 = .ok (.iconst 1, 1) := by decide +kernel
theorem dX11_readsCommand_103 : decode cX11_readsCommand 103 = .ok (.isub, 1) := by decide +kernel
theorem dX11_readsCommand_104 : decode cX11_readsCommand 104 = .ok (.istore 7, 2) := by decide +kernel
theorem dX11_readsCommand_106 : decode cX11_readsCommand 106 = .ok (.aload_n 0, 1) := by decide +kernel
theorem dX11_readsCommand_107 : decode cX11_readsCommand 107 = .ok (.iconst 1, 1) := by decide +kernel
theorem dX11_readsCommand_108 : decode cX11_readsCommand 108 = .ok (.bipush 64, 2) := by decide +kernel
theorem dX11_readsCommand_110 : decode cX11_readsCommand 110 = .ok (.invokevirtual 159, 3) := by decide +kernel
theorem dX11_readsCommand_113 : decode cX11_readsCommand 113 = .ok (.istore 8, 2) := by decide +kernel
theorem dX11_readsCommand_115 : decode cX11_readsCommand 115 = .ok (.aload_n 0, 1) := by decide +kernel
theorem dX11_readsCommand_116 : decode cX11_readsCommand 116 = .ok (.iload 4, 2) := by decide +kernel
theorem dX11_readsCommand_118 : decode cX11_readsCommand 118 = .ok (.iconst 1, 1) := by decide +kernel
theorem dX11_readsCommand_119 : decode cX11_readsCommand 119 = .ok (.if_icmp .ne 12, 3) := by decide +kernel
theorem dX11_readsCommand_122 : decode cX11_readsCommand 122 = .ok (.iload 5, 2) := by decide +kernel
theorem dX11_readsCommand_124 : decode cX11_readsCommand 124 = .ok (.iload 8, 2) := by decide +kernel
theorem dX11_readsCommand_126 : decode cX11_readsCommand 126 = .ok (.iadd, 1) := by decide +kernel
theorem dX11_readsCommand_127 : decode cX11_readsCommand 127 = .ok (.iload_n 2, 1) := by decide +kernel
theorem dX11_readsCommand_128 : decode cX11_readsCommand 128 = .ok (.if_icmp .gt 7, 3) := by decide +kernel
theorem dX11_readsCommand_131 : decode cX11_readsCommand 131 = .ok (.iconst 1, 1) := by decide +kernel
theorem dX11_readsCommand_132 : decode cX11_readsCommand 132 = .ok (.goto 4, 3) := by decide +kernel
theorem dX11_readsCommand_135 : decode cX11_readsCommand 135 = .ok (.iconst 0, 1) := by decide +kernel
theorem dX11_readsCommand_136 : decode cX11_readsCommand 136 = .ok (.aload_n 0, 1) := by decide +kernel
theorem dX11_readsCommand_137 : decode cX11_readsCommand 137 = .ok (.getfield 146, 3) := by decide +kernel
theorem dX11_readsCommand_140 : decode cX11_readsCommand 140 = .ok (.iconst 1, 1) := by decide +kernel
theorem dX11_readsCommand_141 : decode cX11_readsCommand 141 = .ok (.isub, 1) := by decide +kernel
theorem dX11_readsCommand_142 : decode cX11_readsCommand 142 = .ok (.invokevirtual 152, 3) := by decide +kernel
theorem dX11_readsCommand_145 : decode cX11_readsCommand 145 = .ok (.aload_n 0, 1) := by decide +kernel
theorem dX11_readsCommand_146 : decode cX11_readsCommand 146 = .ok (.iload 6, 2) := by decide +kernel
theorem dX11_readsCommand_148 : decode cX11_readsCommand 148 = .ok (.iload 8, 2) := by decide +kernel
theorem dX11_readsCommand_150 : decode cX11_readsCommand 150 = .ok (.iadd, 1) := by decide +kernel
theorem dX11_readsCommand_151 : decode cX11_readsCommand 151 = .ok (.iload_n 3, 1) := by decide +kernel
theorem dX11_readsCommand_152 : decode cX11_readsCommand 152 = .ok (.if_icmp .gt 7, 3) := by decide +kernel
theorem dX11_readsCommand_155 : decode cX11_readsCommand 155 = .ok (.iconst 1, 1) := by decide +kernel
theorem dX11_readsCommand_156 : decode cX11_readsCommand 156 = .ok (.goto 4, 3) := by decide +kernel
theorem dX11_readsCommand_159 : decode cX11_readsCommand 159 = .ok (.iconst 0, 1) := by decide +kernel
theorem dX11_readsCommand_160 : decode cX11_readsCommand 160 = .ok (.aload_n 0, 1) := by decide +kernel
theorem dX11_readsCommand_161 : decode cX11_readsCommand 161 = .ok (.getfield 146, 3) := by decide +kernel
theorem dX11_readsCommand_164 : decode cX11_readsCommand 164 = .ok (.iconst 1, 1) := by decide +kernel
theorem dX11_readsCommand_165 : decode cX11_readsCommand 165 = .ok (.isub, 1) := by decide +kernel
theorem dX11_readsCommand_166 : decode cX11_readsCommand 166 = .ok (.invokevirtual 152, 3) := by decide +kernel
theorem dX11_readsCommand_169 : decode cX11_readsCommand 169 = .ok (.iconst 0, 1) := by decide +kernel
theorem dX11_readsCommand_170 : decode cX11_readsCommand 170 = .ok (.istore 9, 2) := by decide +kernel
theorem dX11_readsCommand_172 : decode cX11_readsCommand 172 = .ok (.iload 9, 2) := by decide +kernel
theorem dX11_readsCommand_174 : decode cX11_readsCommand 174 = .ok (.iload 8, 2) := by decide +kernel
theorem dX11_readsCommand_176 : decode cX11_readsCommand 176 = .ok (.if_icmp .ge 41, 3) := by decide +kernel
theorem dX11_readsCommand_179 : decode cX11_readsCommand 179 = .ok (.aload_n 0, 1) := by decide +kernel
theorem dX11_readsCommand_180 : decode cX11_readsCommand 180 = .ok (.getfield 143, 3) := by decide +kernel
theorem dX11_readsCommand_183 : decode cX11_readsCommand 183 = .ok (.iconst (-1), 1) := by decide +kernel
theorem dX11_readsCommand_184 : decode cX11_readsCommand 184 = .ok (.if_icmp .ne 33, 3) := by decide +kernel
theorem dX11_readsCommand_187 : decode cX11_readsCommand 187 = .ok (.aload_n 0, 1) := by decide +kernel
theorem dX11_readsCommand_188 : decode cX11_readsCommand 188 = .ok (.aload_n 0, 1) := by decide +kernel
theorem dX11_readsCommand_189 : decode cX11_readsCommand 189 = .ok (.getfield 28, 3) := by decide +kernel
theorem dX11_readsCommand_192 : decode cX11_readsCommand 192 = .ok (.iload 6, 2) := by decide +kernel
theorem dX11_readsCommand_194 : decode cX11_readsCommand 194 = .ok (.iload 9, 2) := by decide +kernel
theorem dX11_readsCommand_196 : decode cX11_readsCommand 196 = .ok (.iadd, 1) := by decide +kernel
theorem dX11_readsCommand_197 : decode cX11_readsCommand 197 = .ok (.baload, 1) := by decide +kernel
theorem dX11_readsCommand_198 : decode cX11_readsCommand 198 = .ok (.ifCond .ne 7, 3) := by decide +kernel
theorem dX11_readsCommand_201 : decode cX11_readsCommand 201 = .ok (.iconst 1, 1) := by decide +kernel
theorem dX11_readsCommand_202 : decode cX11_readsCommand 202 = .ok (.goto 4, 3) := by decide +kernel
theorem dX11_readsCommand_205 : decode cX11_readsCommand 205 = .ok (.iconst 0, 1) := by decide +kernel
theorem dX11_readsCommand_206 : decode cX11_readsCommand 206 = .ok (.iload 7, 2) := by decide +kernel
theorem dX11_readsCommand_208 : decode cX11_readsCommand 208 = .ok (.invokevirtual 152, 3) := by decide +kernel
theorem dX11_readsCommand_211 : decode cX11_readsCommand 211 = .ok (.iinc 9 1, 3) := by decide +kernel
theorem dX11_readsCommand_214 : decode cX11_readsCommand 214 = .ok (.goto (-42), 3) := by decide +kernel
theorem dX11_readsCommand_217 : decode cX11_readsCommand 217 = .ok (.iconst 0, 1) := by decide +kernel
theorem dX11_readsCommand_218 : decode cX11_readsCommand 218 = .ok (.istore 9, 2) := by decide +kernel
theorem dX11_readsCommand_220 : decode cX11_readsCommand 220 = .ok (.iload 9, 2) := by decide +kernel
theorem dX11_readsCommand_222 : decode cX11_readsCommand 222 = .ok (.iload 8, 2) := by decide +kernel
theorem dX11_readsCommand_224 : decode cX11_readsCommand 224 = .ok (.if_icmp .ge 28, 3) := by decide +kernel
theorem dX11_readsCommand_227 : decode cX11_readsCommand 227 = .ok (.aload_n 0, 1) := by decide +kernel
theorem dX11_readsCommand_228 : decode cX11_readsCommand 228 = .ok (.getfield 143, 3) := by decide +kernel
theorem dX11_readsCommand_231 : decode cX11_readsCommand 231 = .ok (.iconst (-1), 1) := by decide +kernel
theorem dX11_readsCommand_232 : decode cX11_readsCommand 232 = .ok (.if_icmp .ne 20, 3) := by decide +kernel
theorem dX11_readsCommand_235 : decode cX11_readsCommand 235 = .ok (.aload_n 0, 1) := by decide +kernel
theorem dX11_readsCommand_236 : decode cX11_readsCommand 236 = .ok (.getfield 28, 3) := by decide +kernel
theorem dX11_readsCommand_239 : decode cX11_readsCommand 239 = .ok (.iload 6, 2) := by decide +kernel
theorem dX11_readsCommand_241 : decode cX11_readsCommand 241 = .ok (.iload 9, 2) := by decide +kernel
theorem dX11_readsCommand_243 : decode cX11_readsCommand 243 = .ok (.iadd, 1) := by decide +kernel
theorem dX11_readsCommand_244 : decode cX11_readsCommand 244 = .ok (.iconst 1, 1) := by decide +kernel
theorem dX11_readsCommand_245 : decode cX11_readsCommand 245 = .ok (.bastore, 1) := by decide +kernel
theorem dX11_readsCommand_246 : decode cX11_readsCommand 246 = .ok (.iinc 9 1, 3) := by decide +kernel
theorem dX11_readsCommand_249 : decode cX11_readsCommand 249 = .ok (.goto (-29), 3) := by decide +kernel
theorem dX11_readsCommand_252 : decode cX11_readsCommand 252 = .ok (.iconst 0, 1) := by decide +kernel
theorem dX11_readsCommand_253 : decode cX11_readsCommand 253 = .ok (.istore 9, 2) := by decide +kernel
theorem dX11_readsCommand_255 : decode cX11_readsCommand 255 = .ok (.iload 9, 2) := by decide +kernel
theorem dX11_readsCommand_257 : decode cX11_readsCommand 257 = .ok (.iload 8, 2) := by decide +kernel
theorem dX11_readsCommand_259 : decode cX11_readsCommand 259 = .ok (.if_icmp .ge 37, 3) := by decide +kernel
theorem dX11_readsCommand_262 : decode cX11_readsCommand 262 = .ok (.iload 4, 2) := by decide +kernel
theorem dX11_readsCommand_264 : decode cX11_readsCommand 264 = .ok (.iconst 2, 1) := by decide +kernel
theorem dX11_readsCommand_265 : decode cX11_readsCommand 265 = .ok (.if_icmp .ne 31, 3) := by decide +kernel
theorem dX11_readsCommand_268 : decode cX11_readsCommand 268 = .ok (.aload_n 0, 1) := by decide +kernel
theorem dX11_readsCommand_269 : decode cX11_readsCommand 269 = .ok (.getfield 143, 3) := by decide +kernel
theorem dX11_readsCommand_272 : decode cX11_readsCommand 272 = .ok (.iconst (-1), 1) := by decide +kernel
theorem dX11_readsCommand_273 : decode cX11_readsCommand 273 = .ok (.if_icmp .ne 23, 3) := by decide +kernel
theorem dX11_readsCommand_276 : decode cX11_readsCommand 276 = .ok (.aload_n 0, 1) := by decide +kernel
theorem dX11_readsCommand_277 : decode cX11_readsCommand 277 = .ok (.getfield 25, 3) := by decide +kernel
theorem dX11_readsCommand_280 : decode cX11_readsCommand 280 = .ok (.iload 6, 2) := by decide +kernel
theorem dX11_readsCommand_282 : decode cX11_readsCommand 282 = .ok (.iload 9, 2) := by decide +kernel
theorem dX11_readsCommand_284 : decode cX11_readsCommand 284 = .ok (.iadd, 1) := by decide +kernel
theorem dX11_readsCommand_285 : decode cX11_readsCommand 285 = .ok (.aload_n 0, 1) := by decide +kernel
theorem dX11_readsCommand_286 : decode cX11_readsCommand 286 = .ok (.invokevirtual 149, 3) := by decide +kernel
theorem dX11_readsCommand_289 : decode cX11_readsCommand 289 = .ok (.iastore, 1) := by decide +kernel
theorem dX11_readsCommand_290 : decode cX11_readsCommand 290 = .ok (.iinc 9 1, 3) := by decide +kernel
theorem dX11_readsCommand_293 : decode cX11_readsCommand 293 = .ok (.goto (-38), 3) := by decide +kernel
theorem dX11_readsCommand_296 : decode cX11_readsCommand 296 = .ok (.aload_n 0, 1) := by decide +kernel
theorem dX11_readsCommand_297 : decode cX11_readsCommand 297 = .ok (.getfield 22, 3) := by decide +kernel
theorem dX11_readsCommand_300 : decode cX11_readsCommand 300 = .ok (.iconst 4, 1) := by decide +kernel
theorem dX11_readsCommand_301 : decode cX11_readsCommand 301 = .ok (.iload_n 1, 1) := by decide +kernel
theorem dX11_readsCommand_302 : decode cX11_readsCommand 302 = .ok (.imul, 1) := by decide +kernel
theorem dX11_readsCommand_303 : decode cX11_readsCommand 303 = .ok (.iload 4, 2) := by decide +kernel
theorem dX11_readsCommand_305 : decode cX11_readsCommand 305 = .ok (.iastore, 1) := by decide +kernel
theorem dX11_readsCommand_306 : decode cX11_readsCommand 306 = .ok (.aload_n 0, 1) := by decide +kernel
theorem dX11_readsCommand_307 : decode cX11_readsCommand 307 = .ok (.getfield 22, 3) := by decide +kernel
theorem dX11_readsCommand_310 : decode cX11_readsCommand 310 = .ok (.iconst 4, 1) := by decide +kernel
theorem dX11_readsCommand_311 : decode cX11_readsCommand 311 = .ok (.iload_n 1, 1) := by decide +kernel
theorem dX11_readsCommand_312 : decode cX11_readsCommand 312 = .ok (.imul, 1) := by decide +kernel
theorem dX11_readsCommand_313 : decode cX11_readsCommand 313 = .ok (.iconst 1, 1) := by decide +kernel
theorem dX11_readsCommand_314 : decode cX11_readsCommand 314 = .ok (.iadd, 1) := by decide +kernel
theorem dX11_readsCommand_315 : decode cX11_readsCommand 315 = .ok (.iload 5, 2) := by decide +kernel
theorem dX11_readsCommand_317 : decode cX11_readsCommand 317 = .ok (.iastore, 1) := by decide +kernel
theorem dX11_readsCommand_318 : decode cX11_readsCommand 318 = .ok (.aload_n 0, 1) := by decide +kernel
theorem dX11_readsCommand_319 : decode cX11_readsCommand 319 = .ok (.getfield 22, 3) := by decide +kernel
theorem dX11_readsCommand_322 : decode cX11_readsCommand 322 = .ok (.iconst 4, 1) := by decide +kernel
theorem dX11_readsCommand_323 : decode cX11_readsCommand 323 = .ok (.iload_n 1, 1) := by decide +kernel
theorem dX11_readsCommand_324 : decode cX11_readsCommand 324 = .ok (.imul, 1) := by decide +kernel
theorem dX11_readsCommand_325 : decode cX11_readsCommand 325 = .ok (.iconst 2, 1) := by decide +kernel
theorem dX11_readsCommand_326 : decode cX11_readsCommand 326 = .ok (.iadd, 1) := by decide +kernel
theorem dX11_readsCommand_327 : decode cX11_readsCommand 327 = .ok (.iload 6, 2) := by decide +kernel
theorem dX11_readsCommand_329 : decode cX11_readsCommand 329 = .ok (.iastore, 1) := by decide +kernel
theorem dX11_readsCommand_330 : decode cX11_readsCommand 330 = .ok (.aload_n 0, 1) := by decide +kernel
theorem dX11_readsCommand_331 : decode cX11_readsCommand 331 = .ok (.getfield 22, 3) := by decide +kernel
theorem dX11_readsCommand_334 : decode cX11_readsCommand 334 = .ok (.iconst 4, 1) := by decide +kernel
theorem dX11_readsCommand_335 : decode cX11_readsCommand 335 = .ok (.iload_n 1, 1) := by decide +kernel
theorem dX11_readsCommand_336 : decode cX11_readsCommand 336 = .ok (.imul, 1) := by decide +kernel
theorem dX11_readsCommand_337 : decode cX11_readsCommand 337 = .ok (.iconst 3, 1) := by decide +kernel
theorem dX11_readsCommand_338 : decode cX11_readsCommand 338 = .ok (.iadd, 1) := by decide +kernel
theorem dX11_readsCommand_339 : decode cX11_readsCommand 339 = .ok (.iload 8, 2) := by decide +kernel
theorem dX11_readsCommand_341 : decode cX11_readsCommand 341 = .ok (.iastore, 1) := by decide +kernel
theorem dX11_readsCommand_342 : decode cX11_readsCommand 342 = .ok (.return_, 1) := by decide +kernel
theorem dX11_decode_0 : decode cX11_decode 0 = .ok (.aload_n 0, 1) := by decide +kernel
theorem dX11_decode_1 : decode cX11_decode 1 = .ok (.iconst 0, 1) := by decide +kernel
theorem dX11_decode_2 : decode cX11_decode 2 = .ok (.putfield 35, 3) := by decide +kernel
theorem dX11_decode_5 : decode cX11_decode 5 = .ok (.aload_n 0, 1) := by decide +kernel
theorem dX11_decode_6 : decode cX11_decode 6 = .ok (.iconst 0, 1) := by decide +kernel
theorem dX11_decode_7 : decode cX11_decode 7 = .ok (.putfield 146, 3) := by decide +kernel
theorem dX11_decode_10 : decode cX11_decode 10 = .ok (.aload_n 0, 1) := by decide +kernel
theorem dX11_decode_11 : decode cX11_decode 11 = .ok (.iconst (-1), 1) := by decide +kernel
theorem dX11_decode_12 : decode cX11_decode 12 = .ok (.putfield 143, 3) := by decide +kernel
theorem dX11_decode_15 : decode cX11_decode 15 = .ok (.aload_n 0, 1) := by decide +kernel
theorem dX11_decode_16 : decode cX11_decode 16 = .ok (.iconst 0, 1) := by decide +kernel
theorem dX11_decode_17 : decode cX11_decode 17 = .ok (.putfield 156, 3) := by decide +kernel
theorem dX11_decode_20 : decode cX11_decode 20 = .ok (.iconst 0, 1) := by decide +kernel
theorem dX11_decode_21 : decode cX11_decode 21 = .ok (.istore_n 1, 1) := by decide +kernel
theorem dX11_decode_22 : decode cX11_decode 22 = .ok (.iload_n 1, 1) := by decide +kernel
theorem dX11_decode_23 : decode cX11_decode 23 = .ok (.bipush 64, 2) := by decide +kernel
theorem dX11_decode_25 : decode cX11_decode 25 = .ok (.if_icmp .ge 16, 3) := by decide +kernel
theorem dX11_decode_28 : decode cX11_decode 28 = .ok (.aload_n 0, 1) := by decide +kernel
theorem dX11_decode_29 : decode cX11_decode 29 = .ok (.getfield 28, 3) := by decide +kernel
theorem dX11_decode_32 : decode cX11_decode 32 = .ok (.iload_n 1, 1) := by decide +kernel
theorem dX11_decode_33 : decode cX11_decode 33 = .ok (.iconst 0, 1) := by decide +kernel
theorem dX11_decode_34 : decode cX11_decode 34 = .ok (.bastore, 1) := by decide +kernel
theorem dX11_decode_35 : decode cX11_decode 35 = .ok (.iinc 1 1, 3) := by decide +kernel
theorem dX11_decode_38 : decode cX11_decode 38 = .ok (.goto (-16), 3) := by decide +kernel
theorem dX11_decode_41 : decode cX11_decode 41 = .ok (.aload_n 0, 1) := by decide +kernel
theorem dX11_decode_42 : decode cX11_decode 42 = .ok (.bipush 73, 2) := by decide +kernel
theorem dX11_decode_44 : decode cX11_decode 44 = .ok (.bipush 73, 2) := by decide +kernel
theorem dX11_decode_46 : decode cX11_decode 46 = .ok (.invokevirtual 159, 3) := by decide +kernel
theorem dX11_decode_49 : decode cX11_decode 49 = .ok (.istore_n 1, 1) := by decide +kernel
theorem dX11_decode_50 : decode cX11_decode 50 = .ok (.aload_n 0, 1) := by decide +kernel
theorem dX11_decode_51 : decode cX11_decode 51 = .ok (.iconst 0, 1) := by decide +kernel
theorem dX11_decode_52 : decode cX11_decode 52 = .ok (.bipush 64, 2) := by decide +kernel
theorem dX11_decode_54 : decode cX11_decode 54 = .ok (.invokevirtual 159, 3) := by decide +kernel
theorem dX11_decode_57 : decode cX11_decode 57 = .ok (.istore_n 2, 1) := by decide +kernel
theorem dX11_decode_58 : decode cX11_decode 58 = .ok (.aload_n 0, 1) := by decide +kernel
theorem dX11_decode_59 : decode cX11_decode 59 = .ok (.iconst 0, 1) := by decide +kernel
theorem dX11_decode_60 : decode cX11_decode 60 = .ok (.bipush 64, 2) := by decide +kernel
theorem dX11_decode_62 : decode cX11_decode 62 = .ok (.invokevirtual 159, 3) := by decide +kernel
theorem dX11_decode_65 : decode cX11_decode 65 = .ok (.istore_n 3, 1) := by decide +kernel
theorem dX11_decode_66 : decode cX11_decode 66 = .ok (.aload_n 0, 1) := by decide +kernel
theorem dX11_decode_67 : decode cX11_decode 67 = .ok (.iconst 0, 1) := by decide +kernel
theorem dX11_decode_68 : decode cX11_decode 68 = .ok (.bipush 30, 2) := by decide +kernel
theorem dX11_decode_70 : decode cX11_decode 70 = .ok (.invokevirtual 159, 3) := by decide +kernel
theorem dX11_decode_73 : decode cX11_decode 73 = .ok (.istore 4, 2) := by decide +kernel
theorem dX11_decode_75 : decode cX11_decode 75 = .ok (.iconst 0, 1) := by decide +kernel
theorem dX11_decode_76 : decode cX11_decode 76 = .ok (.istore 5, 2) := by decide +kernel
theorem dX11_decode_78 : decode cX11_decode 78 = .ok (.iload 5, 2) := by decide +kernel
theorem dX11_decode_80 : decode cX11_decode 80 = .ok (.iload 4, 2) := by decide +kernel
theorem dX11_decode_82 : decode cX11_decode 82 = .ok (.if_icmp .ge 25, 3) := by decide +kernel
theorem dX11_decode_85 : decode cX11_decode 85 = .ok (.aload_n 0, 1) := by decide +kernel
theorem dX11_decode_86 : decode cX11_decode 86 = .ok (.getfield 143, 3) := by decide +kernel
theorem dX11_decode_89 : decode cX11_decode 89 = .ok (.iconst (-1), 1) := by decide +kernel
theorem dX11_decode_90 : decode cX11_decode 90 = .ok (.if_icmp .ne 17, 3) := by decide +kernel
theorem dX11_decode_93 : decode cX11_decode 93 = .ok (.aload_n 0, 1) := by decide +kernel
theorem dX11_decode_94 : decode cX11_decode 94 = .ok (.iload 5, 2) := by decide +kernel
theorem dX11_decode_96 : decode cX11_decode 96 = .ok (.iload_n 2, 1) := by decide +kernel
theorem dX11_decode_97 : decode cX11_decode 97 = .ok (.iload_n 3, 1) := by decide +kernel
theorem dX11_decode_98 : decode cX11_decode 98 = .ok (.invokevirtual 162, 3) := by decide +kernel
theorem dX11_decode_101 : decode cX11_decode 101 = .ok (.iinc 5 1, 3) := by decide +kernel
theorem dX11_decode_104 : decode cX11_decode 104 = .ok (.goto (-26), 3) := by decide +kernel
theorem dX11_decode_107 : decode cX11_decode 107 = .ok (.iconst 0, 1) := by decide +kernel
theorem dX11_decode_108 : decode cX11_decode 108 = .ok (.istore 5, 2) := by decide +kernel
theorem dX11_decode_110 : decode cX11_decode 110 = .ok (.iconst 0, 1) := by decide +kernel
theorem dX11_decode_111 : decode cX11_decode 111 = .ok (.istore 6, 2) := by decide +kernel
theorem dX11_decode_113 : decode cX11_decode 113 = .ok (.iload 6, 2) := by decide +kernel
theorem dX11_decode_115 : decode cX11_decode 115 = .ok (.aload_n 0, 1) := by decide +kernel
theorem dX11_decode_116 : decode cX11_decode 116 = .ok (.getfield 146, 3) := by decide +kernel
theorem dX11_decode_119 : decode cX11_decode 119 = .ok (.if_icmp .ge 25, 3) := by decide +kernel
theorem dX11_decode_122 : decode cX11_decode 122 = .ok (.iload 5, 2) := by decide +kernel
theorem dX11_decode_124 : decode cX11_decode 124 = .ok (.aload_n 0, 1) := by decide +kernel
theorem dX11_decode_125 : decode cX11_decode 125 = .ok (.getfield 7, 3) := by decide +kernel
theorem dX11_decode_128 : decode cX11_decode 128 = .ok (.sipush 350, 3) := by decide +kernel
theorem dX11_decode_131 : decode cX11_decode 131 = .ok (.iload 6, 2) := by decide +kernel
theorem dX11_decode_133 : decode cX11_decode 133 = .ok (.iadd, 1) := by decide +kernel
theorem dX11_decode_134 : decode cX11_decode 134 = .ok (.iaload, 1) := by decide +kernel
theorem dX11_decode_135 : decode cX11_decode 135 = .ok (.iadd, 1) := by decide +kernel
theorem dX11_decode_136 : decode cX11_decode 136 = .ok (.istore 5, 2) := by decide +kernel
theorem dX11_decode_138 : decode cX11_decode 138 = .ok (.iinc 6 1, 3) := by decide +kernel
theorem dX11_decode_141 : decode cX11_decode 141 = .ok (.goto (-28), 3) := by decide +kernel
theorem dX11_decode_144 : decode cX11_decode 144 = .ok (.aload_n 0, 1) := by decide +kernel
theorem dX11_decode_145 : decode cX11_decode 145 = .ok (.iload 5, 2) := by decide +kernel
theorem dX11_decode_147 : decode cX11_decode 147 = .ok (.sipush 251, 3) := by decide +kernel
theorem dX11_decode_150 : decode cX11_decode 150 = .ok (.irem, 1) := by decide +kernel
theorem dX11_decode_151 : decode cX11_decode 151 = .ok (.iload 5, 2) := by decide +kernel
theorem dX11_decode_153 : decode cX11_decode 153 = .ok (.sipush 251, 3) := by decide +kernel
theorem dX11_decode_156 : decode cX11_decode 156 = .ok (.irem, 1) := by decide +kernel
theorem dX11_decode_157 : decode cX11_decode 157 = .ok (.invokevirtual 159, 3) := by decide +kernel
theorem dX11_decode_160 : decode cX11_decode 160 = .ok (.istore 6, 2) := by decide +kernel
theorem dX11_decode_162 : decode cX11_decode 162 = .ok (.aload_n 0, 1) := by decide +kernel
theorem dX11_decode_163 : decode cX11_decode 163 = .ok (.aload_n 0, 1) := by decide +kernel
theorem dX11_decode_164 : decode cX11_decode 164 = .ok (.getfield 146, 3) := by decide +kernel
theorem dX11_decode_167 : decode cX11_decode 167 = .ok (.aload_n 0, 1) := by decide +kernel
theorem dX11_decode_168 : decode cX11_decode 168 = .ok (.getfield 7, 3) := by decide +kernel
theorem dX11_decode_171 : decode cX11_decode 171 = .ok (.sipush 349, 3) := by decide +kernel
theorem dX11_decode_174 : decode cX11_decode 174 = .ok (.iaload, 1) := by decide +kernel
theorem dX11_decode_175 : decode cX11_decode 175 = .ok (.if_icmp .ne 7, 3) := by decide +kernel
theorem dX11_decode_178 : decode cX11_decode 178 = .ok (.iconst 1, 1) := by decide +kernel
theorem dX11_decode_179 : decode cX11_decode 179 = .ok (.goto 4, 3) := by decide +kernel
theorem dX11_decode_182 : decode cX11_decode 182 = .ok (.iconst 0, 1) := by decide +kernel
theorem dX11_decode_183 : decode cX11_decode 183 = .ok (.aload_n 0, 1) := by decide +kernel
theorem dX11_decode_184 : decode cX11_decode 184 = .ok (.getfield 146, 3) := by decide +kernel
theorem dX11_decode_187 : decode cX11_decode 187 = .ok (.invokevirtual 152, 3) := by decide +kernel
theorem dX11_decode_190 : decode cX11_decode 190 = .ok (.aload_n 0, 1) := by decide +kernel
theorem dX11_decode_191 : decode cX11_decode 191 = .ok (.getfield 143, 3) := by decide +kernel
theorem dX11_decode_194 : decode cX11_decode 194 = .ok (.iconst (-1), 1) := by decide +kernel
theorem dX11_decode_195 : decode cX11_decode 195 = .ok (.if_icmp .eq 11, 3) := by decide +kernel
theorem dX11_decode_198 : decode cX11_decode 198 = .ok (.bipush (-10), 2) := by decide +kernel
theorem dX11_decode_200 : decode cX11_decode 200 = .ok (.aload_n 0, 1) := by decide +kernel
theorem dX11_decode_201 : decode cX11_decode 201 = .ok (.getfield 143, 3) := by decide +kernel
theorem dX11_decode_204 : decode cX11_decode 204 = .ok (.isub, 1) := by decide +kernel
theorem dX11_decode_205 : decode cX11_decode 205 = .ok (.ireturn, 1) := by decide +kernel
theorem dX11_decode_206 : decode cX11_decode 206 = .ok (.aload_n 0, 1) := by decide +kernel
theorem dX11_decode_207 : decode cX11_decode 207 = .ok (.invokevirtual 63, 3) := by decide +kernel
theorem dX11_decode_210 : decode cX11_decode 210 = .ok (.aload_n 0, 1) := by decide +kernel
theorem dX11_decode_211 : decode cX11_decode 211 = .ok (.invokevirtual 66, 3) := by decide +kernel
theorem dX11_decode_214 : decode cX11_decode 214 = .ok (.aload_n 0, 1) := by decide +kernel
theorem dX11_decode_215 : decode cX11_decode 215 = .ok (.getfield 7, 3) := by decide +kernel
theorem dX11_decode_218 : decode cX11_decode 218 = .ok (.sipush 130, 3) := by decide +kernel
theorem dX11_decode_221 : decode cX11_decode 221 = .ok (.iload_n 2, 1) := by decide +kernel
theorem dX11_decode_222 : decode cX11_decode 222 = .ok (.iastore, 1) := by decide +kernel
theorem dX11_decode_223 : decode cX11_decode 223 = .ok (.aload_n 0, 1) := by decide +kernel
theorem dX11_decode_224 : decode cX11_decode 224 = .ok (.getfield 7, 3) := by decide +kernel
theorem dX11_decode_227 : decode cX11_decode 227 = .ok (.sipush 131, 3) := by decide +kernel
theorem dX11_decode_230 : decode cX11_decode 230 = .ok (.iload_n 3, 1) := by decide +kernel
theorem dX11_decode_231 : decode cX11_decode 231 = .ok (.iastore, 1) := by decide +kernel
theorem dX11_decode_232 : decode cX11_decode 232 = .ok (.aload_n 0, 1) := by decide +kernel
theorem dX11_decode_233 : decode cX11_decode 233 = .ok (.getfield 7, 3) := by decide +kernel
theorem dX11_decode_236 : decode cX11_decode 236 = .ok (.sipush 132, 3) := by decide +kernel
theorem dX11_decode_239 : decode cX11_decode 239 = .ok (.iload 4, 2) := by decide +kernel
theorem dX11_decode_241 : decode cX11_decode 241 = .ok (.iastore, 1) := by decide +kernel
theorem dX11_decode_242 : decode cX11_decode 242 = .ok (.iconst 0, 1) := by decide +kernel
theorem dX11_decode_243 : decode cX11_decode 243 = .ok (.istore 7, 2) := by decide +kernel
theorem dX11_decode_245 : decode cX11_decode 245 = .ok (.iload 7, 2) := by decide +kernel
theorem dX11_decode_247 : decode cX11_decode 247 = .ok (.iconst 4, 1) := by decide +kernel
theorem dX11_decode_248 : decode cX11_decode 248 = .ok (.iload 4, 2) := by decide +kernel
theorem dX11_decode_250 : decode cX11_decode 250 = .ok (.imul, 1) := by decide +kernel
theorem dX11_decode_251 : decode cX11_decode 251 = .ok (.if_icmp .ge 27, 3) := by decide +kernel
theorem dX11_decode_254 : decode cX11_decode 254 = .ok (.aload_n 0, 1) := by decide +kernel
theorem dX11_decode_255 : decode cX11_decode 255 = .ok (.getfield 7, 3) := by decide +kernel
theorem dX11_decode_258 : decode cX11_decode 258 = .ok (.sipush 133, 3) := by decide +kernel
theorem dX11_decode_261 : decode cX11_decode 261 = .ok (.iload 7, 2) := by decide +kernel
theorem dX11_decode_263 : decode cX11_decode 263 = .ok (.iadd, 1) := by decide +kernel
theorem dX11_decode_264 : decode cX11_decode 264 = .ok (.aload_n 0, 1) := by decide +kernel
theorem dX11_decode_265 : decode cX11_decode 265 = .ok (.getfield 22, 3) := by decide +kernel
theorem dX11_decode_268 : decode cX11_decode 268 = .ok (.iload 7, 2) := by decide +kernel
theorem dX11_decode_270 : decode cX11_decode 270 = .ok (.iaload, 1) := by decide +kernel
theorem dX11_decode_271 : decode cX11_decode 271 = .ok (.iastore, 1) := by decide +kernel
theorem dX11_decode_272 : decode cX11_decode 272 = .ok (.iinc 7 1, 3) := by decide +kernel
theorem dX11_decode_275 : decode cX11_decode 275 = .ok (.goto (-30), 3) := by decide +kernel
theorem dX11_decode_278 : decode cX11_decode 278 = .ok (.iconst 0, 1) := by decide +kernel
theorem dX11_decode_279 : decode cX11_decode 279 = .ok (.istore 7, 2) := by decide +kernel
theorem dX11_decode_281 : decode cX11_decode 281 = .ok (.iload 7, 2) := by decide +kernel
theorem dX11_decode_283 : decode cX11_decode 283 = .ok (.bipush 64, 2) := by decide +kernel
theorem dX11_decode_285 : decode cX11_decode 285 = .ok (.if_icmp .ge 27, 3) := by decide +kernel
theorem dX11_decode_288 : decode cX11_decode 288 = .ok (.aload_n 0, 1) := by decide +kernel
theorem dX11_decode_289 : decode cX11_decode 289 = .ok (.getfield 7, 3) := by decide +kernel
theorem dX11_decode_292 : decode cX11_decode 292 = .ok (.sipush 253, 3) := by decide +kernel
theorem dX11_decode_295 : decode cX11_decode 295 = .ok (.iload 7, 2) := by decide +kernel
theorem dX11_decode_297 : decode cX11_decode 297 = .ok (.iadd, 1) := by decide +kernel
theorem dX11_decode_298 : decode cX11_decode 298 = .ok (.aload_n 0, 1) := by decide +kernel
theorem dX11_decode_299 : decode cX11_decode 299 = .ok (.getfield 25, 3) := by decide +kernel
theorem dX11_decode_302 : decode cX11_decode 302 = .ok (.iload 7, 2) := by decide +kernel
theorem dX11_decode_304 : decode cX11_decode 304 = .ok (.iaload, 1) := by decide +kernel
theorem dX11_decode_305 : decode cX11_decode 305 = .ok (.iastore, 1) := by decide +kernel
theorem dX11_decode_306 : decode cX11_decode 306 = .ok (.iinc 7 1, 3) := by decide +kernel
theorem dX11_decode_309 : decode cX11_decode 309 = .ok (.goto (-28), 3) := by decide +kernel
theorem dX11_decode_312 : decode cX11_decode 312 = .ok (.iload 4, 2) := by decide +kernel
theorem dX11_decode_314 : decode cX11_decode 314 = .ok (.ireturn, 1) := by decide +kernel
theorem dX11_works_0 : decode cX11_works 0 = .ok (.aload_n 0, 1) := by decide +kernel
theorem dX11_works_1 : decode cX11_works 1 = .ok (.getfield 7, 3) := by decide +kernel
theorem dX11_works_4 : decode cX11_works 4 = .ok (.sipush 550, 3) := by decide +kernel
theorem dX11_works_7 : decode cX11_works 7 = .ok (.iaload, 1) := by decide +kernel
theorem dX11_works_8 : decode cX11_works 8 = .ok (.iconst 1, 1) := by decide +kernel
theorem dX11_works_9 : decode cX11_works 9 = .ok (.if_icmp .ne 7, 3) := by decide +kernel
theorem dX11_works_12 : decode cX11_works 12 = .ok (.iconst 1, 1) := by decide +kernel
theorem dX11_works_13 : decode cX11_works 13 = .ok (.goto 4, 3) := by decide +kernel
theorem dX11_works_16 : decode cX11_works 16 = .ok (.iconst 0, 1) := by decide +kernel
theorem dX11_works_17 : decode cX11_works 17 = .ok (.ireturn, 1) := by decide +kernel
theorem dX11_cutsWork_0 : decode cX11_cutsWork 0 = .ok (.aload_n 0, 1) := by decide +kernel
theorem dX11_cutsWork_1 : decode cX11_cutsWork 1 = .ok (.getfield 7, 3) := by decide +kernel
theorem dX11_cutsWork_4 : decode cX11_cutsWork 4 = .ok (.sipush 551, 3) := by decide +kernel
theorem dX11_cutsWork_7 : decode cX11_cutsWork 7 = .ok (.iaload, 1) := by decide +kernel
theorem dX11_cutsWork_8 : decode cX11_cutsWork 8 = .ok (.ifCond .ne 19, 3) := by decide +kernel
theorem dX11_cutsWork_11 : decode cX11_cutsWork 11 = .ok (.aload_n 0, 1) := by decide +kernel
theorem dX11_cutsWork_12 : decode cX11_cutsWork 12 = .ok (.getfield 7, 3) := by decide +kernel
theorem dX11_cutsWork_15 : decode cX11_cutsWork 15 = .ok (.sipush 552, 3) := by decide +kernel
theorem dX11_cutsWork_18 : decode cX11_cutsWork 18 = .ok (.aload_n 0, 1) := by decide +kernel
theorem dX11_cutsWork_19 : decode cX11_cutsWork 19 = .ok (.getfield 7, 3) := by decide +kernel
theorem dX11_cutsWork_22 : decode cX11_cutsWork 22 = .ok (.sipush 131, 3) := by decide +kernel
theorem dX11_cutsWork_25 : decode cX11_cutsWork 25 = .ok (.iaload, 1) := by decide +kernel
theorem dX11_cutsWork_26 : decode cX11_cutsWork 26 = .ok (.iastore, 1) := by decide +kernel
theorem dX11_cutsWork_27 : decode cX11_cutsWork 27 = .ok (.return_, 1) := by decide +kernel
theorem dX11_begin_0 : decode cX11_begin 0 = .ok (.aload_n 0, 1) := by decide +kernel
theorem dX11_begin_1 : decode cX11_begin 1 = .ok (.aload_n 0, 1) := by decide +kernel
theorem dX11_begin_2 : decode cX11_begin 2 = .ok (.invokevirtual 117, 3) := by decide +kernel
theorem dX11_begin_5 : decode cX11_begin 5 = .ok (.iconst 1, 1) := by decide +kernel
theorem dX11_begin_6 : decode cX11_begin 6 = .ok (.invokevirtual 59, 3) := by decide +kernel
theorem dX11_begin_9 : decode cX11_begin 9 = .ok (.ifCond .ne 5, 3) := by decide +kernel
theorem dX11_begin_12 : decode cX11_begin 12 = .ok (.iconst 0, 1) := by decide +kernel
theorem dX11_begin_13 : decode cX11_begin 13 = .ok (.ireturn, 1) := by decide +kernel
theorem dX11_begin_14 : decode cX11_begin 14 = .ok (.aload_n 0, 1) := by decide +kernel
theorem dX11_begin_15 : decode cX11_begin 15 = .ok (.invokevirtual 63, 3) := by decide +kernel
theorem dX11_begin_18 : decode cX11_begin 18 = .ok (.aload_n 0, 1) := by decide +kernel
theorem dX11_begin_19 : decode cX11_begin 19 = .ok (.getfield 7, 3) := by decide +kernel
theorem dX11_begin_22 : decode cX11_begin 22 = .ok (.sipush 550, 3) := by decide +kernel
theorem dX11_begin_25 : decode cX11_begin 25 = .ok (.iconst 1, 1) := by decide +kernel
theorem dX11_begin_26 : decode cX11_begin 26 = .ok (.iastore, 1) := by decide +kernel
theorem dX11_begin_27 : decode cX11_begin 27 = .ok (.aload_n 0, 1) := by decide +kernel
theorem dX11_begin_28 : decode cX11_begin 28 = .ok (.getfield 7, 3) := by decide +kernel
theorem dX11_begin_31 : decode cX11_begin 31 = .ok (.sipush 551, 3) := by decide +kernel
theorem dX11_begin_34 : decode cX11_begin 34 = .ok (.aload_n 0, 1) := by decide +kernel
theorem dX11_begin_35 : decode cX11_begin 35 = .ok (.getfield 7, 3) := by decide +kernel
theorem dX11_begin_38 : decode cX11_begin 38 = .ok (.sipush 132, 3) := by decide +kernel
theorem dX11_begin_41 : decode cX11_begin 41 = .ok (.iaload, 1) := by decide +kernel
theorem dX11_begin_42 : decode cX11_begin 42 = .ok (.iastore, 1) := by decide +kernel
theorem dX11_begin_43 : decode cX11_begin 43 = .ok (.aload_n 0, 1) := by decide +kernel
theorem dX11_begin_44 : decode cX11_begin 44 = .ok (.getfield 7, 3) := by decide +kernel
theorem dX11_begin_47 : decode cX11_begin 47 = .ok (.sipush 552, 3) := by decide +kernel
theorem dX11_begin_50 : decode cX11_begin 50 = .ok (.aload_n 0, 1) := by decide +kernel
theorem dX11_begin_51 : decode cX11_begin 51 = .ok (.getfield 7, 3) := by decide +kernel
theorem dX11_begin_54 : decode cX11_begin 54 = .ok (.sipush 130, 3) := by decide +kernel
theorem dX11_begin_57 : decode cX11_begin 57 = .ok (.iaload, 1) := by decide +kernel
theorem dX11_begin_58 : decode cX11_begin 58 = .ok (.aload_n 0, 1) := by decide +kernel
theorem dX11_begin_59 : decode cX11_begin 59 = .ok (.getfield 7, 3) := by decide +kernel
theorem dX11_begin_62 : decode cX11_begin 62 = .ok (.sipush 131, 3) := by decide +kernel
theorem dX11_begin_65 : decode cX11_begin 65 = .ok (.iaload, 1) := by decide +kernel
theorem dX11_begin_66 : decode cX11_begin 66 = .ok (.if_icmp .le 14, 3) := by decide +kernel
theorem dX11_begin_69 : decode cX11_begin 69 = .ok (.aload_n 0, 1) := by decide +kernel
theorem dX11_begin_70 : decode cX11_begin 70 = .ok (.getfield 7, 3) := by decide +kernel
theorem dX11_begin_73 : decode cX11_begin 73 = .ok (.sipush 130, 3) := by decide +kernel
theorem dX11_begin_76 : decode cX11_begin 76 = .ok (.iaload, 1) := by decide +kernel
theorem dX11_begin_77 : decode cX11_begin 77 = .ok (.goto 11, 3) := by decide +kernel
theorem dX11_begin_80 : decode cX11_begin 80 = .ok (.aload_n 0, 1) := by decide +kernel
theorem dX11_begin_81 : decode cX11_begin 81 = .ok (.getfield 7, 3) := by decide +kernel
theorem dX11_begin_84 : decode cX11_begin 84 = .ok (.sipush 131, 3) := by decide +kernel
theorem dX11_begin_87 : decode cX11_begin 87 = .ok (.iaload, 1) := by decide +kernel
theorem dX11_begin_88 : decode cX11_begin 88 = .ok (.iastore, 1) := by decide +kernel
theorem dX11_begin_89 : decode cX11_begin 89 = .ok (.iconst 0, 1) := by decide +kernel
theorem dX11_begin_90 : decode cX11_begin 90 = .ok (.istore_n 1, 1) := by decide +kernel
theorem dX11_begin_91 : decode cX11_begin 91 = .ok (.iload_n 1, 1) := by decide +kernel
theorem dX11_begin_92 : decode cX11_begin 92 = .ok (.bipush 64, 2) := by decide +kernel
theorem dX11_begin_94 : decode cX11_begin 94 = .ok (.if_icmp .ge 41, 3) := by decide +kernel
theorem dX11_begin_97 : decode cX11_begin 97 = .ok (.aload_n 0, 1) := by decide +kernel
theorem dX11_begin_98 : decode cX11_begin 98 = .ok (.getfield 7, 3) := by decide +kernel
theorem dX11_begin_101 : decode cX11_begin 101 = .ok (.sipush 553, 3) := by decide +kernel
theorem dX11_begin_104 : decode cX11_begin 104 = .ok (.iload_n 1, 1) := by decide +kernel
theorem dX11_begin_105 : decode cX11_begin 105 = .ok (.iadd, 1) := by decide +kernel
theorem dX11_begin_106 : decode cX11_begin 106 = .ok (.iload_n 1, 1) := by decide +kernel
theorem dX11_begin_107 : decode cX11_begin 107 = .ok (.aload_n 0, 1) := by decide +kernel
theorem dX11_begin_108 : decode cX11_begin 108 = .ok (.getfield 7, 3) := by decide +kernel
theorem dX11_begin_111 : decode cX11_begin 111 = .ok (.sipush 130, 3) := by decide +kernel
theorem dX11_begin_114 : decode cX11_begin 114 = .ok (.iaload, 1) := by decide +kernel
theorem dX11_begin_115 : decode cX11_begin 115 = .ok (.if_icmp .ge 12, 3) := by decide +kernel
theorem dX11_begin_118 : decode cX11_begin 118 = .ok (.aload_n 0, 1) := by decide +kernel
theorem dX11_begin_119 : decode cX11_begin 119 = .ok (.iconst 0, 1) := by decide +kernel
theorem dX11_begin_120 : decode cX11_begin 120 = .ok (.iload_n 1, 1) := by decide +kernel
theorem dX11_begin_121 : decode cX11_begin 121 = .ok (.invokevirtual 73, 3) := by decide +kernel
theorem dX11_begin_124 : decode cX11_begin 124 = .ok (.goto 4, 3) := by decide +kernel
theorem dX11_begin_127 : decode cX11_begin 127 = .ok (.iconst 0, 1) := by decide +kernel
theorem dX11_begin_128 : decode cX11_begin 128 = .ok (.iastore, 1) := by decide +kernel
theorem dX11_begin_129 : decode cX11_begin 129 = .ok (.iinc 1 1, 3) := by decide +kernel
theorem dX11_begin_132 : decode cX11_begin 132 = .ok (.goto (-41), 3) := by decide +kernel
theorem dX11_begin_135 : decode cX11_begin 135 = .ok (.aload_n 0, 1) := by decide +kernel
theorem dX11_begin_136 : decode cX11_begin 136 = .ok (.invokevirtual 166, 3) := by decide +kernel
theorem dX11_begin_139 : decode cX11_begin 139 = .ok (.aload_n 0, 1) := by decide +kernel
theorem dX11_begin_140 : decode cX11_begin 140 = .ok (.getfield 7, 3) := by decide +kernel
theorem dX11_begin_143 : decode cX11_begin 143 = .ok (.sipush 551, 3) := by decide +kernel
theorem dX11_begin_146 : decode cX11_begin 146 = .ok (.iaload, 1) := by decide +kernel
theorem dX11_begin_147 : decode cX11_begin 147 = .ok (.ireturn, 1) := by decide +kernel
theorem dX11_step_0 : decode cX11_step 0 = .ok (.aload_n 0, 1) := by decide +kernel
theorem dX11_step_1 : decode cX11_step 1 = .ok (.aload_n 0, 1) := by decide +kernel
theorem dX11_step_2 : decode cX11_step 2 = .ok (.invokevirtual 169, 3) := by decide +kernel
theorem dX11_step_5 : decode cX11_step 5 = .ok (.ifCond .eq 18, 3) := by decide +kernel
theorem dX11_step_8 : decode cX11_step 8 = .ok (.aload_n 0, 1) := by decide +kernel
theorem dX11_step_9 : decode cX11_step 9 = .ok (.getfield 7, 3) := by decide +kernel
theorem dX11_step_12 : decode cX11_step 12 = .ok (.sipush 551, 3) := by decide +kernel
theorem dX11_step_15 : decode cX11_step 15 = .ok (.iaload, 1) := by decide +kernel
theorem dX11_step_16 : decode cX11_step 16 = .ok (.ifCond .le 7, 3) := by decide +kernel
theorem dX11_step_19 : decode cX11_step 19 = .ok (.iconst 1, 1) := by decide +kernel
theorem dX11_step_20 : decode cX11_step 20 = .ok (.goto 4, 3) := by decide +kernel
theorem dX11_step_23 : decode cX11_step 23 = .ok (.iconst 0, 1) := by decide +kernel
theorem dX11_step_24 : decode cX11_step 24 = .ok (.iconst 1, 1) := by decide +kernel
theorem dX11_step_25 : decode cX11_step 25 = .ok (.invokevirtual 59, 3) := by decide +kernel
theorem dX11_step_28 : decode cX11_step 28 = .ok (.ifCond .ne 5, 3) := by decide +kernel
theorem dX11_step_31 : decode cX11_step 31 = .ok (.iconst 0, 1) := by decide +kernel
theorem dX11_step_32 : decode cX11_step 32 = .ok (.ireturn, 1) := by decide +kernel
theorem dX11_step_33 : decode cX11_step 33 = .ok (.aload_n 0, 1) := by decide +kernel
theorem dX11_step_34 : decode cX11_step 34 = .ok (.invokevirtual 63, 3) := by decide +kernel
theorem dX11_step_37 : decode cX11_step 37 = .ok (.aload_n 0, 1) := by decide +kernel
theorem dX11_step_38 : decode cX11_step 38 = .ok (.getfield 7, 3) := by decide +kernel
theorem dX11_step_41 : decode cX11_step 41 = .ok (.sipush 318, 3) := by decide +kernel
theorem dX11_step_44 : decode cX11_step 44 = .ok (.aload_n 0, 1) := by decide +kernel
theorem dX11_step_45 : decode cX11_step 45 = .ok (.getfield 7, 3) := by decide +kernel
theorem dX11_step_48 : decode cX11_step 48 = .ok (.sipush 132, 3) := by decide +kernel
theorem dX11_step_51 : decode cX11_step 51 = .ok (.iaload, 1) := by decide +kernel
theorem dX11_step_52 : decode cX11_step 52 = .ok (.iadd, 1) := by decide +kernel
theorem dX11_step_53 : decode cX11_step 53 = .ok (.aload_n 0, 1) := by decide +kernel
theorem dX11_step_54 : decode cX11_step 54 = .ok (.getfield 7, 3) := by decide +kernel
theorem dX11_step_57 : decode cX11_step 57 = .ok (.sipush 551, 3) := by decide +kernel
theorem dX11_step_60 : decode cX11_step 60 = .ok (.iaload, 1) := by decide +kernel
theorem dX11_step_61 : decode cX11_step 61 = .ok (.isub, 1) := by decide +kernel
theorem dX11_step_62 : decode cX11_step 62 = .ok (.iaload, 1) := by decide +kernel
theorem dX11_step_63 : decode cX11_step 63 = .ok (.istore_n 1, 1) := by decide +kernel
theorem dX11_step_64 : decode cX11_step 64 = .ok (.aload_n 0, 1) := by decide +kernel
theorem dX11_step_65 : decode cX11_step 65 = .ok (.iload_n 1, 1) := by decide +kernel
theorem dX11_step_66 : decode cX11_step 66 = .ok (.invokevirtual 96, 3) := by decide +kernel
theorem dX11_step_69 : decode cX11_step 69 = .ok (.ifCond .eq 22, 3) := by decide +kernel
theorem dX11_step_72 : decode cX11_step 72 = .ok (.aload_n 0, 1) := by decide +kernel
theorem dX11_step_73 : decode cX11_step 73 = .ok (.getfield 7, 3) := by decide +kernel
theorem dX11_step_76 : decode cX11_step 76 = .ok (.sipush 348, 3) := by decide +kernel
theorem dX11_step_79 : decode cX11_step 79 = .ok (.iaload, 1) := by decide +kernel
theorem dX11_step_80 : decode cX11_step 80 = .ok (.iload_n 1, 1) := by decide +kernel
theorem dX11_step_81 : decode cX11_step 81 = .ok (.ishr, 1) := by decide +kernel
theorem dX11_step_82 : decode cX11_step 82 = .ok (.iconst 1, 1) := by decide +kernel
theorem dX11_step_83 : decode cX11_step 83 = .ok (.iand, 1) := by decide +kernel
theorem dX11_step_84 : decode cX11_step 84 = .ok (.ifCond .ne 7, 3) := by decide +kernel
theorem dX11_step_87 : decode cX11_step 87 = .ok (.iconst 1, 1) := by decide +kernel
theorem dX11_step_88 : decode cX11_step 88 = .ok (.goto 4, 3) := by decide +kernel
theorem dX11_step_91 : decode cX11_step 91 = .ok (.iconst 0, 1) := by decide +kernel
theorem dX11_step_92 : decode cX11_step 92 = .ok (.istore_n 2, 1) := by decide +kernel
theorem dX11_step_93 : decode cX11_step 93 = .ok (.iconst 0, 1) := by decide +kernel
theorem dX11_step_94 : decode cX11_step 94 = .ok (.istore_n 3, 1) := by decide +kernel
theorem dX11_step_95 : decode cX11_step 95 = .ok (.iload_n 3, 1) := by decide +kernel
theorem dX11_step_96 : decode cX11_step 96 = .ok (.aload_n 0, 1) := by decide +kernel
theorem dX11_step_97 : decode cX11_step 97 = .ok (.iload_n 1, 1) := by decide +kernel
theorem dX11_step_98 : decode cX11_step 98 = .ok (.iconst 3, 1) := by decide +kernel
theorem dX11_step_99 : decode cX11_step 99 = .ok (.invokevirtual 77, 3) := by decide +kernel
theorem dX11_step_102 : decode cX11_step 102 = .ok (.if_icmp .ge 45, 3) := by decide +kernel
theorem dX11_step_105 : decode cX11_step 105 = .ok (.aload_n 0, 1) := by decide +kernel
theorem dX11_step_106 : decode cX11_step 106 = .ok (.getfield 32, 3) := by decide +kernel
theorem dX11_step_109 : decode cX11_step 109 = .ok (.iload_n 3, 1) := by decide +kernel
theorem dX11_step_110 : decode cX11_step 110 = .ok (.iload_n 2, 1) := by decide +kernel
theorem dX11_step_111 : decode cX11_step 111 = .ok (.ifCond .eq 23, 3) := by decide +kernel
theorem dX11_step_114 : decode cX11_step 114 = .ok (.aload_n 0, 1) := by decide +kernel
theorem dX11_step_115 : decode cX11_step 115 = .ok (.getfield 7, 3) := by decide +kernel
theorem dX11_step_118 : decode cX11_step 118 = .ok (.sipush 553, 3) := by decide +kernel
theorem dX11_step_121 : decode cX11_step 121 = .ok (.aload_n 0, 1) := by decide +kernel
theorem dX11_step_122 : decode cX11_step 122 = .ok (.iload_n 1, 1) := by decide +kernel
theorem dX11_step_123 : decode cX11_step 123 = .ok (.iconst 1, 1) := by decide +kernel
theorem dX11_step_124 : decode cX11_step 124 = .ok (.invokevirtual 77, 3) := by decide +kernel
theorem dX11_step_127 : decode cX11_step 127 = .ok (.iadd, 1) := by decide +kernel
theorem dX11_step_128 : decode cX11_step 128 = .ok (.iload_n 3, 1) := by decide +kernel
theorem dX11_step_129 : decode cX11_step 129 = .ok (.iadd, 1) := by decide +kernel
theorem dX11_step_130 : decode cX11_step 130 = .ok (.iaload, 1) := by decide +kernel
theorem dX11_step_131 : decode cX11_step 131 = .ok (.goto 9, 3) := by decide +kernel
theorem dX11_step_134 : decode cX11_step 134 = .ok (.aload_n 0, 1) := by decide +kernel
theorem dX11_step_135 : decode cX11_step 135 = .ok (.iload_n 1, 1) := by decide +kernel
theorem dX11_step_136 : decode cX11_step 136 = .ok (.iload_n 3, 1) := by decide +kernel
theorem dX11_step_137 : decode cX11_step 137 = .ok (.invokevirtual 137, 3) := by decide +kernel
theorem dX11_step_140 : decode cX11_step 140 = .ok (.iastore, 1) := by decide +kernel
theorem dX11_step_141 : decode cX11_step 141 = .ok (.iinc 3 1, 3) := by decide +kernel
theorem dX11_step_144 : decode cX11_step 144 = .ok (.goto (-49), 3) := by decide +kernel
theorem dX11_step_147 : decode cX11_step 147 = .ok (.iconst 0, 1) := by decide +kernel
theorem dX11_step_148 : decode cX11_step 148 = .ok (.istore_n 3, 1) := by decide +kernel
theorem dX11_step_149 : decode cX11_step 149 = .ok (.iload_n 3, 1) := by decide +kernel
theorem dX11_step_150 : decode cX11_step 150 = .ok (.aload_n 0, 1) := by decide +kernel
theorem dX11_step_151 : decode cX11_step 151 = .ok (.iload_n 1, 1) := by decide +kernel
theorem dX11_step_152 : decode cX11_step 152 = .ok (.iconst 3, 1) := by decide +kernel
theorem dX11_step_153 : decode cX11_step 153 = .ok (.invokevirtual 77, 3) := by decide +kernel
theorem dX11_step_156 : decode cX11_step 156 = .ok (.if_icmp .ge 32, 3) := by decide +kernel
theorem dX11_step_159 : decode cX11_step 159 = .ok (.aload_n 0, 1) := by decide +kernel
theorem dX11_step_160 : decode cX11_step 160 = .ok (.getfield 7, 3) := by decide +kernel
theorem dX11_step_163 : decode cX11_step 163 = .ok (.sipush 553, 3) := by decide +kernel
theorem dX11_step_166 : decode cX11_step 166 = .ok (.aload_n 0, 1) := by decide +kernel
theorem dX11_step_167 : decode cX11_step 167 = .ok (.iload_n 1, 1) := by decide +kernel
theorem dX11_step_168 : decode cX11_step 168 = .ok (.iconst 2, 1) := by decide +kernel
theorem dX11_step_169 : decode cX11_step 169 = .ok (.invokevirtual 77, 3) := by decide +kernel
theorem dX11_step_172 : decode cX11_step 172 = .ok (.iadd, 1) := by decide +kernel
theorem dX11_step_173 : decode cX11_step 173 = .ok (.iload_n 3, 1) := by decide +kernel
theorem dX11_step_174 : decode cX11_step 174 = .ok (.iadd, 1) := by decide +kernel
theorem dX11_step_175 : decode cX11_step 175 = .ok (.aload_n 0, 1) := by decide +kernel
theorem dX11_step_176 : decode cX11_step 176 = .ok (.getfield 32, 3) := by decide +kernel
theorem dX11_step_179 : decode cX11_step 179 = .ok (.iload_n 3, 1) := by decide +kernel
theorem dX11_step_180 : decode cX11_step 180 = .ok (.iaload, 1) := by decide +kernel
theorem dX11_step_181 : decode cX11_step 181 = .ok (.iastore, 1) := by decide +kernel
theorem dX11_step_182 : decode cX11_step 182 = .ok (.iinc 3 1, 3) := by decide +kernel
theorem dX11_step_185 : decode cX11_step 185 = .ok (.goto (-36), 3) := by decide +kernel
theorem dX11_step_188 : decode cX11_step 188 = .ok (.aload_n 0, 1) := by decide +kernel
theorem dX11_step_189 : decode cX11_step 189 = .ok (.getfield 7, 3) := by decide +kernel
theorem dX11_step_192 : decode cX11_step 192 = .ok (.sipush 551, 3) := by decide +kernel
theorem dX11_step_195 : decode cX11_step 195 = .ok (.dup2, 1) := by decide +kernel
theorem dX11_step_196 : decode cX11_step 196 = .ok (.iaload, 1) := by decide +kernel
theorem dX11_step_197 : decode cX11_step 197 = .ok (.iconst 1, 1) := by decide +kernel
theorem dX11_step_198 : decode cX11_step 198 = .ok (.isub, 1) := by decide +kernel
theorem dX11_step_199 : decode cX11_step 199 = .ok (.iastore, 1) := by decide +kernel
theorem dX11_step_200 : decode cX11_step 200 = .ok (.aload_n 0, 1) := by decide +kernel
theorem dX11_step_201 : decode cX11_step 201 = .ok (.invokevirtual 166, 3) := by decide +kernel
theorem dX11_step_204 : decode cX11_step 204 = .ok (.aload_n 0, 1) := by decide +kernel
theorem dX11_step_205 : decode cX11_step 205 = .ok (.getfield 7, 3) := by decide +kernel
theorem dX11_step_208 : decode cX11_step 208 = .ok (.sipush 551, 3) := by decide +kernel
theorem dX11_step_211 : decode cX11_step 211 = .ok (.iaload, 1) := by decide +kernel
theorem dX11_step_212 : decode cX11_step 212 = .ok (.ireturn, 1) := by decide +kernel
theorem dX11_workByte_0 : decode cX11_workByte 0 = .ok (.aload_n 0, 1) := by decide +kernel
theorem dX11_workByte_1 : decode cX11_workByte 1 = .ok (.iload_n 1, 1) := by decide +kernel
theorem dX11_workByte_2 : decode cX11_workByte 2 = .ok (.iconst (-1), 1) := by decide +kernel
theorem dX11_workByte_3 : decode cX11_workByte 3 = .ok (.if_icmp .lt 7, 3) := by decide +kernel
theorem dX11_workByte_6 : decode cX11_workByte 6 = .ok (.iconst 1, 1) := by decide +kernel
theorem dX11_workByte_7 : decode cX11_workByte 7 = .ok (.goto 4, 3) := by decide +kernel
theorem dX11_workByte_10 : decode cX11_workByte 10 = .ok (.iconst 0, 1) := by decide +kernel
theorem dX11_workByte_11 : decode cX11_workByte 11 = .ok (.aload_n 0, 1) := by decide +kernel
theorem dX11_workByte_12 : decode cX11_workByte 12 = .ok (.invokevirtual 169, 3) := by decide +kernel
theorem dX11_workByte_15 : decode cX11_workByte 15 = .ok (.invokevirtual 59, 3) := by decide +kernel
theorem dX11_workByte_18 : decode cX11_workByte 18 = .ok (.ifCond .ne 5, 3) := by decide +kernel
theorem dX11_workByte_21 : decode cX11_workByte 21 = .ok (.iconst 0, 1) := by decide +kernel
theorem dX11_workByte_22 : decode cX11_workByte 22 = .ok (.ireturn, 1) := by decide +kernel
theorem dX11_workByte_23 : decode cX11_workByte 23 = .ok (.iload_n 1, 1) := by decide +kernel
theorem dX11_workByte_24 : decode cX11_workByte 24 = .ok (.iconst (-1), 1) := by decide +kernel
theorem dX11_workByte_25 : decode cX11_workByte 25 = .ok (.if_icmp .ne 14, 3) := by decide +kernel
theorem dX11_workByte_28 : decode cX11_workByte 28 = .ok (.aload_n 0, 1) := by decide +kernel
theorem dX11_workByte_29 : decode cX11_workByte 29 = .ok (.getfield 7, 3) := by decide +kernel
theorem dX11_workByte_32 : decode cX11_workByte 32 = .ok (.sipush 552, 3) := by decide +kernel
theorem dX11_workByte_35 : decode cX11_workByte 35 = .ok (.iaload, 1) := by decide +kernel
theorem dX11_workByte_36 : decode cX11_workByte 36 = .ok (.goto 29, 3) := by decide +kernel
theorem dX11_workByte_39 : decode cX11_workByte 39 = .ok (.iload_n 1, 1) := by decide +kernel
theorem dX11_workByte_40 : decode cX11_workByte 40 = .ok (.aload_n 0, 1) := by decide +kernel
theorem dX11_workByte_41 : decode cX11_workByte 41 = .ok (.getfield 7, 3) := by decide +kernel
theorem dX11_workByte_44 : decode cX11_workByte 44 = .ok (.sipush 552, 3) := by decide +kernel
theorem dX11_workByte_47 : decode cX11_workByte 47 = .ok (.iaload, 1) := by decide +kernel
theorem dX11_workByte_48 : decode cX11_workByte 48 = .ok (.if_icmp .ge 16, 3) := by decide +kernel
theorem dX11_workByte_51 : decode cX11_workByte 51 = .ok (.aload_n 0, 1) := by decide +kernel
theorem dX11_workByte_52 : decode cX11_workByte 52 = .ok (.getfield 7, 3) := by decide +kernel
theorem dX11_workByte_55 : decode cX11_workByte 55 = .ok (.sipush 553, 3) := by decide +kernel
theorem dX11_workByte_58 : decode cX11_workByte 58 = .ok (.iload_n 1, 1) := by decide +kernel
theorem dX11_workByte_59 : decode cX11_workByte 59 = .ok (.iadd, 1) := by decide +kernel
theorem dX11_workByte_60 : decode cX11_workByte 60 = .ok (.iaload, 1) := by decide +kernel
theorem dX11_workByte_61 : decode cX11_workByte 61 = .ok (.goto 4, 3) := by decide +kernel
theorem dX11_workByte_64 : decode cX11_workByte 64 = .ok (.iconst (-1), 1) := by decide +kernel
theorem dX11_workByte_65 : decode cX11_workByte 65 = .ok (.ireturn, 1) := by decide +kernel
theorem dX11_compare_0 : decode cX11_compare 0 = .ok (.aload_n 0, 1) := by decide +kernel
theorem dX11_compare_1 : decode cX11_compare 1 = .ok (.aload_n 0, 1) := by decide +kernel
theorem dX11_compare_2 : decode cX11_compare 2 = .ok (.invokevirtual 169, 3) := by decide +kernel
theorem dX11_compare_5 : decode cX11_compare 5 = .ok (.iconst 1, 1) := by decide +kernel
theorem dX11_compare_6 : decode cX11_compare 6 = .ok (.invokevirtual 59, 3) := by decide +kernel
theorem dX11_compare_9 : decode cX11_compare 9 = .ok (.ifCond .ne 5, 3) := by decide +kernel
theorem dX11_compare_12 : decode cX11_compare 12 = .ok (.iconst 0, 1) := by decide +kernel
theorem dX11_compare_13 : decode cX11_compare 13 = .ok (.ireturn, 1) := by decide +kernel
theorem dX11_compare_14 : decode cX11_compare 14 = .ok (.iconst 0, 1) := by decide +kernel
theorem dX11_compare_15 : decode cX11_compare 15 = .ok (.istore_n 1, 1) := by decide +kernel
theorem dX11_compare_16 : decode cX11_compare 16 = .ok (.iload_n 1, 1) := by decide +kernel
theorem dX11_compare_17 : decode cX11_compare 17 = .ok (.aload_n 0, 1) := by decide +kernel
theorem dX11_compare_18 : decode cX11_compare 18 = .ok (.getfield 7, 3) := by decide +kernel
theorem dX11_compare_21 : decode cX11_compare 21 = .ok (.sipush 552, 3) := by decide +kernel
theorem dX11_compare_24 : decode cX11_compare 24 = .ok (.iaload, 1) := by decide +kernel
theorem dX11_compare_25 : decode cX11_compare 25 = .ok (.if_icmp .ge 37, 3) := by decide +kernel
theorem dX11_compare_28 : decode cX11_compare 28 = .ok (.iload_n 1, 1) := by decide +kernel
theorem dX11_compare_29 : decode cX11_compare 29 = .ok (.aload_n 0, 1) := by decide +kernel
theorem dX11_compare_30 : decode cX11_compare 30 = .ok (.iconst 1, 1) := by decide +kernel
theorem dX11_compare_31 : decode cX11_compare 31 = .ok (.invokevirtual 55, 3) := by decide +kernel
theorem dX11_compare_34 : decode cX11_compare 34 = .ok (.if_icmp .ge 28, 3) := by decide +kernel
theorem dX11_compare_37 : decode cX11_compare 37 = .ok (.aload_n 0, 1) := by decide +kernel
theorem dX11_compare_38 : decode cX11_compare 38 = .ok (.getfield 7, 3) := by decide +kernel
theorem dX11_compare_41 : decode cX11_compare 41 = .ok (.sipush 553, 3) := by decide +kernel
theorem dX11_compare_44 : decode cX11_compare 44 = .ok (.iload_n 1, 1) := by decide +kernel
theorem dX11_compare_45 : decode cX11_compare 45 = .ok (.iadd, 1) := by decide +kernel
theorem dX11_compare_46 : decode cX11_compare 46 = .ok (.iaload, 1) := by decide +kernel
theorem dX11_compare_47 : decode cX11_compare 47 = .ok (.aload_n 0, 1) := by decide +kernel
theorem dX11_compare_48 : decode cX11_compare 48 = .ok (.iconst 1, 1) := by decide +kernel
theorem dX11_compare_49 : decode cX11_compare 49 = .ok (.iload_n 1, 1) := by decide +kernel
theorem dX11_compare_50 : decode cX11_compare 50 = .ok (.invokevirtual 73, 3) := by decide +kernel
theorem dX11_compare_53 : decode cX11_compare 53 = .ok (.if_icmp .ne 9, 3) := by decide +kernel
theorem dX11_compare_56 : decode cX11_compare 56 = .ok (.iinc 1 1, 3) := by decide +kernel
theorem dX11_compare_59 : decode cX11_compare 59 = .ok (.goto (-43), 3) := by decide +kernel
theorem dX11_compare_62 : decode cX11_compare 62 = .ok (.iload_n 1, 1) := by decide +kernel
theorem dX11_compare_63 : decode cX11_compare 63 = .ok (.aload_n 0, 1) := by decide +kernel
theorem dX11_compare_64 : decode cX11_compare 64 = .ok (.getfield 7, 3) := by decide +kernel
theorem dX11_compare_67 : decode cX11_compare 67 = .ok (.sipush 552, 3) := by decide +kernel
theorem dX11_compare_70 : decode cX11_compare 70 = .ok (.iaload, 1) := by decide +kernel
theorem dX11_compare_71 : decode cX11_compare 71 = .ok (.if_icmp .ne 16, 3) := by decide +kernel
theorem dX11_compare_74 : decode cX11_compare 74 = .ok (.iload_n 1, 1) := by decide +kernel
theorem dX11_compare_75 : decode cX11_compare 75 = .ok (.aload_n 0, 1) := by decide +kernel
theorem dX11_compare_76 : decode cX11_compare 76 = .ok (.iconst 1, 1) := by decide +kernel
theorem dX11_compare_77 : decode cX11_compare 77 = .ok (.invokevirtual 55, 3) := by decide +kernel
theorem dX11_compare_80 : decode cX11_compare 80 = .ok (.if_icmp .ne 7, 3) := by decide +kernel
theorem dX11_compare_83 : decode cX11_compare 83 = .ok (.iconst (-1), 1) := by decide +kernel
theorem dX11_compare_84 : decode cX11_compare 84 = .ok (.goto 4, 3) := by decide +kernel
theorem dX11_compare_87 : decode cX11_compare 87 = .ok (.iload_n 1, 1) := by decide +kernel
theorem dX11_compare_88 : decode cX11_compare 88 = .ok (.ireturn, 1) := by decide +kernel
theorem dX11_ratio_0 : decode cX11_ratio 0 = .ok (.aload_n 0, 1) := by decide +kernel
theorem dX11_ratio_1 : decode cX11_ratio 1 = .ok (.iconst 0, 1) := by decide +kernel
theorem dX11_ratio_2 : decode cX11_ratio 2 = .ok (.putfield 35, 3) := by decide +kernel
theorem dX11_ratio_5 : decode cX11_ratio 5 = .ok (.aload_n 0, 1) := by decide +kernel
theorem dX11_ratio_6 : decode cX11_ratio 6 = .ok (.getfield 7, 3) := by decide +kernel
theorem dX11_ratio_9 : decode cX11_ratio 9 = .ok (.sipush 349, 3) := by decide +kernel
theorem dX11_ratio_12 : decode cX11_ratio 12 = .ok (.iaload, 1) := by decide +kernel
theorem dX11_ratio_13 : decode cX11_ratio 13 = .ok (.i2d, 1) := by decide +kernel
theorem dX11_ratio_14 : decode cX11_ratio 14 = .ok (.dstore_n 1, 1) := by decide +kernel
theorem dX11_ratio_15 : decode cX11_ratio 15 = .ok (.aload_n 0, 1) := by decide +kernel
theorem dX11_ratio_16 : decode cX11_ratio 16 = .ok (.iconst 1, 1) := by decide +kernel
theorem dX11_ratio_17 : decode cX11_ratio 17 = .ok (.invokevirtual 55, 3) := by decide +kernel
theorem dX11_ratio_20 : decode cX11_ratio 20 = .ok (.i2d, 1) := by decide +kernel
theorem dX11_ratio_21 : decode cX11_ratio 21 = .ok (.dstore_n 3, 1) := by decide +kernel
theorem dX11_ratio_22 : decode cX11_ratio 22 = .ok (.aload_n 0, 1) := by decide +kernel
theorem dX11_ratio_23 : decode cX11_ratio 23 = .ok (.iconst 1, 1) := by decide +kernel
theorem dX11_ratio_24 : decode cX11_ratio 24 = .ok (.invokevirtual 55, 3) := by decide +kernel
theorem dX11_ratio_27 : decode cX11_ratio 27 = .ok (.ifCond .ne 7, 3) := by decide +kernel
theorem dX11_ratio_30 : decode cX11_ratio 30 = .ok (.dconst 0, 1) := by decide +kernel
theorem dX11_ratio_31 : decode cX11_ratio 31 = .ok (.goto 6, 3) := by decide +kernel
theorem dX11_ratio_34 : decode cX11_ratio 34 = .ok (.dload_n 1, 1) := by decide +kernel
theorem dX11_ratio_35 : decode cX11_ratio 35 = .ok (.dload_n 3, 1) := by decide +kernel
theorem dX11_ratio_36 : decode cX11_ratio 36 = .ok (.ddiv, 1) := by decide +kernel
theorem dX11_ratio_37 : decode cX11_ratio 37 = .ok (.dreturn, 1) := by decide +kernel
theorem dX11_undo_0 : decode cX11_undo 0 = .ok (.aload_n 0, 1) := by decide +kernel
theorem dX11_undo_1 : decode cX11_undo 1 = .ok (.aload_n 0, 1) := by decide +kernel
theorem dX11_undo_2 : decode cX11_undo 2 = .ok (.getfield 39, 3) := by decide +kernel
theorem dX11_undo_5 : decode cX11_undo 5 = .ok (.ifCond .le 7, 3) := by decide +kernel
theorem dX11_undo_8 : decode cX11_undo 8 = .ok (.iconst 1, 1) := by decide +kernel
theorem dX11_undo_9 : decode cX11_undo 9 = .ok (.goto 4, 3) := by decide +kernel
theorem dX11_undo_12 : decode cX11_undo 12 = .ok (.iconst 0, 1) := by decide +kernel
theorem dX11_undo_13 : decode cX11_undo 13 = .ok (.iconst 1, 1) := by decide +kernel
theorem dX11_undo_14 : decode cX11_undo 14 = .ok (.invokevirtual 59, 3) := by decide +kernel
theorem dX11_undo_17 : decode cX11_undo 17 = .ok (.ifCond .ne 5, 3) := by decide +kernel
theorem dX11_undo_20 : decode cX11_undo 20 = .ok (.iconst 0, 1) := by decide +kernel
theorem dX11_undo_21 : decode cX11_undo 21 = .ok (.ireturn, 1) := by decide +kernel
theorem dX11_undo_22 : decode cX11_undo 22 = .ok (.aload_n 0, 1) := by decide +kernel
theorem dX11_undo_23 : decode cX11_undo 23 = .ok (.dup, 1) := by decide +kernel
theorem dX11_undo_24 : decode cX11_undo 24 = .ok (.getfield 39, 3) := by decide +kernel
theorem dX11_undo_27 : decode cX11_undo 27 = .ok (.iconst 1, 1) := by decide +kernel
theorem dX11_undo_28 : decode cX11_undo 28 = .ok (.isub, 1) := by decide +kernel
theorem dX11_undo_29 : decode cX11_undo 29 = .ok (.putfield 39, 3) := by decide +kernel
