theorem dX7_take_13 : decode cX7_take 13 = .ok (.putfield 15, 3) := by decide +kernel
theorem dX7_take_16 : decode cX7_take 16 = .ok (.aload_n 0, 1) := by decide +kernel
theorem dX7_take_17 : decode cX7_take 17 = .ok (.aload_n 1, 1) := by decide +kernel
theorem dX7_take_18 : decode cX7_take 18 = .ok (.getfield 28, 3) := by decide +kernel
theorem dX7_take_21 : decode cX7_take 21 = .ok (.putfield 28, 3) := by decide +kernel
theorem dX7_take_24 : decode cX7_take 24 = .ok (.aload_n 0, 1) := by decide +kernel
theorem dX7_take_25 : decode cX7_take 25 = .ok (.aload_n 1, 1) := by decide +kernel
theorem dX7_take_26 : decode cX7_take 26 = .ok (.getfield 39, 3) := by decide +kernel
theorem dX7_take_29 : decode cX7_take 29 = .ok (.putfield 39, 3) := by decide +kernel
theorem dX7_take_32 : decode cX7_take 32 = .ok (.aload_n 1, 1) := by decide +kernel
theorem dX7_take_33 : decode cX7_take 33 = .ok (.getfield 9, 3) := by decide +kernel
theorem dX7_take_36 : decode cX7_take 36 = .ok (.iconst 0, 1) := by decide +kernel
theorem dX7_take_37 : decode cX7_take 37 = .ok (.aload_n 0, 1) := by decide +kernel
theorem dX7_take_38 : decode cX7_take 38 = .ok (.getfield 9, 3) := by decide +kernel
theorem dX7_take_41 : decode cX7_take 41 = .ok (.iconst 0, 1) := by decide +kernel
theorem dX7_take_42 : decode cX7_take 42 = .ok (.bipush 30, 2) := by decide +kernel
theorem dX7_take_44 : decode cX7_take 44 = .ok (.invokestatic 88, 3) := by decide +kernel
theorem dX7_take_47 : decode cX7_take 47 = .ok (.return_, 1) := by decide +kernel
theorem dX7_mixInto_0 : decode cX7_mixInto 0 = .ok (.aload_n 0, 1) := by decide +kernel
theorem dX7_mixInto_1 : decode cX7_mixInto 1 = .ok (.getfield 35, 3) := by decide +kernel
theorem dX7_mixInto_4 : decode cX7_mixInto 4 = .ok (.ifCond .ne 9, 3) := by decide +kernel
theorem dX7_mixInto_7 : decode cX7_mixInto 7 = .ok (.lload_n 1, 1) := by decide +kernel
theorem dX7_mixInto_8 : decode cX7_mixInto 8 = .ok (.lconst 0, 1) := by decide +kernel
theorem dX7_mixInto_9 : decode cX7_mixInto 9 = .ok (.invokestatic 94, 3) := by decide +kernel
theorem dX7_mixInto_12 : decode cX7_mixInto 12 = .ok (.lreturn, 1) := by decide +kernel
theorem dX7_mixInto_13 : decode cX7_mixInto 13 = .ok (.lload_n 1, 1) := by decide +kernel
theorem dX7_mixInto_14 : decode cX7_mixInto 14 = .ok (.lconst 1, 1) := by decide +kernel
theorem dX7_mixInto_15 : decode cX7_mixInto 15 = .ok (.invokestatic 94, 3) := by decide +kernel
theorem dX7_mixInto_18 : decode cX7_mixInto 18 = .ok (.lstore_n 3, 1) := by decide +kernel
theorem dX7_mixInto_19 : decode cX7_mixInto 19 = .ok (.iconst 0, 1) := by decide +kernel
theorem dX7_mixInto_20 : decode cX7_mixInto 20 = .ok (.istore 5, 2) := by decide +kernel
theorem dX7_mixInto_22 : decode cX7_mixInto 22 = .ok (.iload 5, 2) := by decide +kernel
theorem dX7_mixInto_24 : decode cX7_mixInto 24 = .ok (.aload_n 0, 1) := by decide +kernel
theorem dX7_mixInto_25 : decode cX7_mixInto 25 = .ok (.getfield 15, 3) := by decide +kernel
theorem dX7_mixInto_28 : decode cX7_mixInto 28 = .ok (.if_icmp .ge 21, 3) := by decide +kernel
theorem dX7_mixInto_31 : decode cX7_mixInto 31 = .ok (.lload_n 3, 1) := by decide +kernel
theorem dX7_mixInto_32 : decode cX7_mixInto 32 = .ok (.aload_n 0, 1) := by decide +kernel
theorem dX7_mixInto_33 : decode cX7_mixInto 33 = .ok (.iload 5, 2) := by decide +kernel
theorem dX7_mixInto_35 : decode cX7_mixInto 35 = .ok (.invokevirtual 98, 3) := by decide +kernel
theorem dX7_mixInto_38 : decode cX7_mixInto 38 = .ok (.i2l, 1) := by decide +kernel
theorem dX7_mixInto_39 : decode cX7_mixInto 39 = .ok (.invokestatic 94, 3) := by decide +kernel
theorem dX7_mixInto_42 : decode cX7_mixInto 42 = .ok (.lstore_n 3, 1) := by decide +kernel
theorem dX7_mixInto_43 : decode cX7_mixInto 43 = .ok (.iinc 5 1, 3) := by decide +kernel
theorem dX7_mixInto_46 : decode cX7_mixInto 46 = .ok (.goto (-24), 3) := by decide +kernel
theorem dX7_mixInto_49 : decode cX7_mixInto 49 = .ok (.lload_n 3, 1) := by decide +kernel
theorem dX7_mixInto_50 : decode cX7_mixInto 50 = .ok (.aload_n 0, 1) := by decide +kernel
theorem dX7_mixInto_51 : decode cX7_mixInto 51 = .ok (.getfield 28, 3) := by decide +kernel
theorem dX7_mixInto_54 : decode cX7_mixInto 54 = .ok (.i2l, 1) := by decide +kernel
theorem dX7_mixInto_55 : decode cX7_mixInto 55 = .ok (.invokestatic 94, 3) := by decide +kernel
theorem dX7_mixInto_58 : decode cX7_mixInto 58 = .ok (.lreturn, 1) := by decide +kernel
theorem dX8_init_0 : decode cX8_init 0 = .ok (.aload_n 0, 1) := by decide +kernel
theorem dX8_init_1 : decode cX8_init 1 = .ok (.invokespecial 3, 3) := by decide +kernel
theorem dX8_init_4 : decode cX8_init 4 = .ok (.aload_n 0, 1) := by decide +kernel
theorem dX8_init_5 : decode cX8_init 5 = .ok (.new 9, 3) := by decide +kernel
theorem dX8_init_8 : decode cX8_init 8 = .ok (.dup, 1) := by decide +kernel
theorem dX8_init_9 : decode cX8_init 9 = .ok (.bipush 64, 2) := by decide +kernel
theorem dX8_init_11 : decode cX8_init 11 = .ok (.invokespecial 11, 3) := by decide +kernel
theorem dX8_init_14 : decode cX8_init 14 = .ok (.putfield 14, 3) := by decide +kernel
theorem dX8_init_17 : decode cX8_init 17 = .ok (.aload_n 0, 1) := by decide +kernel
theorem dX8_init_18 : decode cX8_init 18 = .ok (.new 9, 3) := by decide +kernel
theorem dX8_init_21 : decode cX8_init 21 = .ok (.dup, 1) := by decide +kernel
theorem dX8_init_22 : decode cX8_init 22 = .ok (.bipush 64, 2) := by decide +kernel
theorem dX8_init_24 : decode cX8_init 24 = .ok (.invokespecial 11, 3) := by decide +kernel
theorem dX8_init_27 : decode cX8_init 27 = .ok (.putfield 20, 3) := by decide +kernel
theorem dX8_init_30 : decode cX8_init 30 = .ok (.aload_n 0, 1) := by decide +kernel
theorem dX8_init_31 : decode cX8_init 31 = .ok (.new 23, 3) := by decide +kernel
theorem dX8_init_34 : decode cX8_init 34 = .ok (.dup, 1) := by decide +kernel
theorem dX8_init_35 : decode cX8_init 35 = .ok (.invokespecial 25, 3) := by decide +kernel
theorem dX8_init_38 : decode cX8_init 38 = .ok (.putfield 26, 3) := by decide +kernel
theorem dX8_init_41 : decode cX8_init 41 = .ok (.aload_n 0, 1) := by decide +kernel
theorem dX8_init_42 : decode cX8_init 42 = .ok (.new 30, 3) := by decide +kernel
theorem dX8_init_45 : decode cX8_init 45 = .ok (.dup, 1) := by decide +kernel
theorem dX8_init_46 : decode cX8_init 46 = .ok (.invokespecial 32, 3) := by decide +kernel
theorem dX8_init_49 : decode cX8_init 49 = .ok (.putfield 33, 3) := by decide +kernel
theorem dX8_init_52 : decode cX8_init 52 = .ok (.aload_n 0, 1) := by decide +kernel
theorem dX8_init_53 : decode cX8_init 53 = .ok (.new 9, 3) := by decide +kernel
theorem dX8_init_56 : decode cX8_init 56 = .ok (.dup, 1) := by decide +kernel
theorem dX8_init_57 : decode cX8_init 57 = .ok (.sipush 200, 3) := by decide +kernel
theorem dX8_init_60 : decode cX8_init 60 = .ok (.invokespecial 11, 3) := by decide +kernel
theorem dX8_init_63 : decode cX8_init 63 = .ok (.putfield 37, 3) := by decide +kernel
theorem dX8_init_66 : decode cX8_init 66 = .ok (.aload_n 0, 1) := by decide +kernel
theorem dX8_init_67 : decode cX8_init 67 = .ok (.new 40, 3) := by decide +kernel
theorem dX8_init_70 : decode cX8_init 70 = .ok (.dup, 1) := by decide +kernel
theorem dX8_init_71 : decode cX8_init 71 = .ok (.invokespecial 42, 3) := by decide +kernel
theorem dX8_init_74 : decode cX8_init 74 = .ok (.putfield 43, 3) := by decide +kernel
theorem dX8_init_77 : decode cX8_init 77 = .ok (.return_, 1) := by decide +kernel
theorem dX8_version_0 : decode cX8_version 0 = .ok (.iload_n 1, 1) := by decide +kernel
theorem dX8_version_1 : decode cX8_version 1 = .ok (.ifCond .ne 10, 3) := by decide +kernel
theorem dX8_version_4 : decode cX8_version 4 = .ok (.aload_n 0, 1) := by decide +kernel
theorem dX8_version_5 : decode cX8_version 5 = .ok (.getfield 14, 3) := by decide +kernel
theorem dX8_version_8 : decode cX8_version 8 = .ok (.goto 7, 3) := by decide +kernel
theorem dX8_version_11 : decode cX8_version 11 = .ok (.aload_n 0, 1) := by decide +kernel
theorem dX8_version_12 : decode cX8_version 12 = .ok (.getfield 20, 3) := by decide +kernel
theorem dX8_version_15 : decode cX8_version 15 = .ok (.areturn, 1) := by decide +kernel
theorem dX8_dropPlan_0 : decode cX8_dropPlan 0 = .ok (.aload_n 0, 1) := by decide +kernel
theorem dX8_dropPlan_1 : decode cX8_dropPlan 1 = .ok (.getfield 33, 3) := by decide +kernel
theorem dX8_dropPlan_4 : decode cX8_dropPlan 4 = .ok (.iconst 0, 1) := by decide +kernel
theorem dX8_dropPlan_5 : decode cX8_dropPlan 5 = .ok (.putfield 47, 3) := by decide +kernel
theorem dX8_dropPlan_8 : decode cX8_dropPlan 8 = .ok (.aload_n 0, 1) := by decide +kernel
theorem dX8_dropPlan_9 : decode cX8_dropPlan 9 = .ok (.getfield 43, 3) := by decide +kernel
theorem dX8_dropPlan_12 : decode cX8_dropPlan 12 = .ok (.iconst 0, 1) := by decide +kernel
theorem dX8_dropPlan_13 : decode cX8_dropPlan 13 = .ok (.putfield 51, 3) := by decide +kernel
theorem dX8_dropPlan_16 : decode cX8_dropPlan 16 = .ok (.return_, 1) := by decide +kernel
theorem dX8_byteToAdd_0 : decode cX8_byteToAdd 0 = .ok (.aload_n 0, 1) := by decide +kernel
theorem dX8_byteToAdd_1 : decode cX8_byteToAdd 1 = .ok (.getfield 26, 3) := by decide +kernel
theorem dX8_byteToAdd_4 : decode cX8_byteToAdd 4 = .ok (.iload_n 1, 1) := by decide +kernel
theorem dX8_byteToAdd_5 : decode cX8_byteToAdd 5 = .ok (.invokevirtual 52, 3) := by decide +kernel
theorem dX8_byteToAdd_8 : decode cX8_byteToAdd 8 = .ok (.ifCond .eq 23, 3) := by decide +kernel
theorem dX8_byteToAdd_11 : decode cX8_byteToAdd 11 = .ok (.aload_n 0, 1) := by decide +kernel
theorem dX8_byteToAdd_12 : decode cX8_byteToAdd 12 = .ok (.getfield 14, 3) := by decide +kernel
theorem dX8_byteToAdd_15 : decode cX8_byteToAdd 15 = .ok (.aload_n 0, 1) := by decide +kernel
theorem dX8_byteToAdd_16 : decode cX8_byteToAdd 16 = .ok (.getfield 26, 3) := by decide +kernel
theorem dX8_byteToAdd_19 : decode cX8_byteToAdd 19 = .ok (.iload_n 1, 1) := by decide +kernel
theorem dX8_byteToAdd_20 : decode cX8_byteToAdd 20 = .ok (.invokevirtual 56, 3) := by decide +kernel
theorem dX8_byteToAdd_23 : decode cX8_byteToAdd 23 = .ok (.iload_n 2, 1) := by decide +kernel
theorem dX8_byteToAdd_24 : decode cX8_byteToAdd 24 = .ok (.iadd, 1) := by decide +kernel
theorem dX8_byteToAdd_25 : decode cX8_byteToAdd 25 = .ok (.invokevirtual 60, 3) := by decide +kernel
theorem dX8_byteToAdd_28 : decode cX8_byteToAdd 28 = .ok (.goto 20, 3) := by decide +kernel
theorem dX8_byteToAdd_31 : decode cX8_byteToAdd 31 = .ok (.aload_n 0, 1) := by decide +kernel
theorem dX8_byteToAdd_32 : decode cX8_byteToAdd 32 = .ok (.getfield 26, 3) := by decide +kernel
theorem dX8_byteToAdd_35 : decode cX8_byteToAdd 35 = .ok (.aload_n 0, 1) := by decide +kernel
theorem dX8_byteToAdd_36 : decode cX8_byteToAdd 36 = .ok (.getfield 26, 3) := by decide +kernel
theorem dX8_byteToAdd_39 : decode cX8_byteToAdd 39 = .ok (.iload_n 1, 1) := by decide +kernel
theorem dX8_byteToAdd_40 : decode cX8_byteToAdd 40 = .ok (.invokevirtual 63, 3) := by decide +kernel
theorem dX8_byteToAdd_43 : decode cX8_byteToAdd 43 = .ok (.iload_n 2, 1) := by decide +kernel
theorem dX8_byteToAdd_44 : decode cX8_byteToAdd 44 = .ok (.iadd, 1) := by decide +kernel
theorem dX8_byteToAdd_45 : decode cX8_byteToAdd 45 = .ok (.invokevirtual 66, 3) := by decide +kernel
theorem dX8_byteToAdd_48 : decode cX8_byteToAdd 48 = .ok (.ireturn, 1) := by decide +kernel
theorem dX8_take_0 : decode cX8_take 0 = .ok (.aload_n 0, 1) := by decide +kernel
theorem dX8_take_1 : decode cX8_take 1 = .ok (.getfield 14, 3) := by decide +kernel
theorem dX8_take_4 : decode cX8_take 4 = .ok (.aload_n 1, 1) := by decide +kernel
theorem dX8_take_5 : decode cX8_take 5 = .ok (.getfield 14, 3) := by decide +kernel
theorem dX8_take_8 : decode cX8_take 8 = .ok (.invokevirtual 69, 3) := by decide +kernel
theorem dX8_take_11 : decode cX8_take 11 = .ok (.aload_n 0, 1) := by decide +kernel
theorem dX8_take_12 : decode cX8_take 12 = .ok (.getfield 20, 3) := by decide +kernel
theorem dX8_take_15 : decode cX8_take 15 = .ok (.aload_n 1, 1) := by decide +kernel
theorem dX8_take_16 : decode cX8_take 16 = .ok (.getfield 20, 3) := by decide +kernel
theorem dX8_take_19 : decode cX8_take 19 = .ok (.invokevirtual 69, 3) := by decide +kernel
theorem dX8_take_22 : decode cX8_take 22 = .ok (.aload_n 0, 1) := by decide +kernel
theorem dX8_take_23 : decode cX8_take 23 = .ok (.getfield 26, 3) := by decide +kernel
theorem dX8_take_26 : decode cX8_take 26 = .ok (.aload_n 1, 1) := by decide +kernel
theorem dX8_take_27 : decode cX8_take 27 = .ok (.getfield 26, 3) := by decide +kernel
theorem dX8_take_30 : decode cX8_take 30 = .ok (.invokevirtual 73, 3) := by decide +kernel
theorem dX8_take_33 : decode cX8_take 33 = .ok (.aload_n 0, 1) := by decide +kernel
theorem dX8_take_34 : decode cX8_take 34 = .ok (.getfield 33, 3) := by decide +kernel
theorem dX8_take_37 : decode cX8_take 37 = .ok (.aload_n 1, 1) := by decide +kernel
theorem dX8_take_38 : decode cX8_take 38 = .ok (.getfield 33, 3) := by decide +kernel
theorem dX8_take_41 : decode cX8_take 41 = .ok (.invokevirtual 76, 3) := by decide +kernel
theorem dX8_take_44 : decode cX8_take 44 = .ok (.aload_n 0, 1) := by decide +kernel
theorem dX8_take_45 : decode cX8_take 45 = .ok (.getfield 37, 3) := by decide +kernel
theorem dX8_take_48 : decode cX8_take 48 = .ok (.aload_n 1, 1) := by decide +kernel
theorem dX8_take_49 : decode cX8_take 49 = .ok (.getfield 37, 3) := by decide +kernel
theorem dX8_take_52 : decode cX8_take 52 = .ok (.invokevirtual 69, 3) := by decide +kernel
theorem dX8_take_55 : decode cX8_take 55 = .ok (.aload_n 0, 1) := by decide +kernel
theorem dX8_take_56 : decode cX8_take 56 = .ok (.getfield 43, 3) := by decide +kernel
theorem dX8_take_59 : decode cX8_take 59 = .ok (.aload_n 1, 1) := by decide +kernel
theorem dX8_take_60 : decode cX8_take 60 = .ok (.getfield 43, 3) := by decide +kernel
theorem dX8_take_63 : decode cX8_take 63 = .ok (.invokevirtual 79, 3) := by decide +kernel
theorem dX8_take_66 : decode cX8_take 66 = .ok (.return_, 1) := by decide +kernel
theorem dX9_init_0 : decode cX9_init 0 = .ok (.aload_n 0, 1) := by decide +kernel
theorem dX9_init_1 : decode cX9_init 1 = .ok (.invokespecial 3, 3) := by decide +kernel
theorem dX9_init_4 : decode cX9_init 4 = .ok (.aload_n 0, 1) := by decide +kernel
theorem dX9_init_5 : decode cX9_init 5 = .ok (.new 9, 3) := by decide +kernel
theorem dX9_init_8 : decode cX9_init 8 = .ok (.dup, 1) := by decide +kernel
theorem dX9_init_9 : decode cX9_init 9 = .ok (.bipush 64, 2) := by decide +kernel
theorem dX9_init_11 : decode cX9_init 11 = .ok (.invokespecial 11, 3) := by decide +kernel
theorem dX9_init_14 : decode cX9_init 14 = .ok (.putfield 14, 3) := by decide +kernel
theorem dX9_init_17 : decode cX9_init 17 = .ok (.return_, 1) := by decide +kernel
theorem dX9_start_0 : decode cX9_start 0 = .ok (.aload_n 0, 1) := by decide +kernel
theorem dX9_start_1 : decode cX9_start 1 = .ok (.iconst 1, 1) := by decide +kernel
theorem dX9_start_2 : decode cX9_start 2 = .ok (.putfield 20, 3) := by decide +kernel
theorem dX9_start_5 : decode cX9_start 5 = .ok (.aload_n 0, 1) := by decide +kernel
theorem dX9_start_6 : decode cX9_start 6 = .ok (.aload_n 1, 1) := by decide +kernel
theorem dX9_start_7 : decode cX9_start 7 = .ok (.getfield 24, 3) := by decide +kernel
theorem dX9_start_10 : decode cX9_start 10 = .ok (.getfield 30, 3) := by decide +kernel
theorem dX9_start_13 : decode cX9_start 13 = .ok (.putfield 36, 3) := by decide +kernel
theorem dX9_start_16 : decode cX9_start 16 = .ok (.aload_n 0, 1) := by decide +kernel
theorem dX9_start_17 : decode cX9_start 17 = .ok (.getfield 14, 3) := by decide +kernel
theorem dX9_start_20 : decode cX9_start 20 = .ok (.aload_n 1, 1) := by decide +kernel
theorem dX9_start_21 : decode cX9_start 21 = .ok (.getfield 39, 3) := by decide +kernel
theorem dX9_start_24 : decode cX9_start 24 = .ok (.invokevirtual 42, 3) := by decide +kernel
theorem dX9_start_27 : decode cX9_start 27 = .ok (.aload_n 0, 1) := by decide +kernel
theorem dX9_start_28 : decode cX9_start 28 = .ok (.getfield 14, 3) := by decide +kernel
theorem dX9_start_31 : decode cX9_start 31 = .ok (.getfield 46, 3) := by decide +kernel
theorem dX9_start_34 : decode cX9_start 34 = .ok (.istore_n 2, 1) := by decide +kernel
theorem dX9_start_35 : decode cX9_start 35 = .ok (.iload_n 2, 1) := by decide +kernel
theorem dX9_start_36 : decode cX9_start 36 = .ok (.aload_n 1, 1) := by decide +kernel
theorem dX9_start_37 : decode cX9_start 37 = .ok (.getfield 47, 3) := by decide +kernel
theorem dX9_start_40 : decode cX9_start 40 = .ok (.getfield 51, 3) := by decide +kernel
theorem dX9_start_43 : decode cX9_start 43 = .ok (.if_icmp .ge 17, 3) := by decide +kernel
theorem dX9_start_46 : decode cX9_start 46 = .ok (.aload_n 0, 1) := by decide +kernel
theorem dX9_start_47 : decode cX9_start 47 = .ok (.getfield 14, 3) := by decide +kernel
theorem dX9_start_50 : decode cX9_start 50 = .ok (.iconst 0, 1) := by decide +kernel
theorem dX9_start_51 : decode cX9_start 51 = .ok (.invokevirtual 56, 3) := by decide +kernel
theorem dX9_start_54 : decode cX9_start 54 = .ok (.iinc 2 1, 3) := by decide +kernel
theorem dX9_start_57 : decode cX9_start 57 = .ok (.goto (-22), 3) := by decide +kernel
theorem dX9_start_60 : decode cX9_start 60 = .ok (.aload_n 0, 1) := by decide +kernel
theorem dX9_start_61 : decode cX9_start 61 = .ok (.aload_n 1, 1) := by decide +kernel
theorem dX9_start_62 : decode cX9_start 62 = .ok (.getfield 47, 3) := by decide +kernel
theorem dX9_start_65 : decode cX9_start 65 = .ok (.invokevirtual 59, 3) := by decide +kernel
theorem dX9_start_68 : decode cX9_start 68 = .ok (.return_, 1) := by decide +kernel
theorem dX9_carryOutNext_0 : decode cX9_carryOutNext 0 = .ok (.aload_n 1, 1) := by decide +kernel
theorem dX9_carryOutNext_1 : decode cX9_carryOutNext 1 = .ok (.getfield 24, 3) := by decide +kernel
theorem dX9_carryOutNext_4 : decode cX9_carryOutNext 4 = .ok (.aload_n 1, 1) := by decide +kernel
theorem dX9_carryOutNext_5 : decode cX9_carryOutNext 5 = .ok (.getfield 24, 3) := by decide +kernel
theorem dX9_carryOutNext_8 : decode cX9_carryOutNext 8 = .ok (.getfield 30, 3) := by decide +kernel
theorem dX9_carryOutNext_11 : decode cX9_carryOutNext 11 = .ok (.aload_n 0, 1) := by decide +kernel
theorem dX9_carryOutNext_12 : decode cX9_carryOutNext 12 = .ok (.getfield 36, 3) := by decide +kernel
theorem dX9_carryOutNext_15 : decode cX9_carryOutNext 15 = .ok (.isub, 1) := by decide +kernel
theorem dX9_carryOutNext_16 : decode cX9_carryOutNext 16 = .ok (.invokevirtual 63, 3) := by decide +kernel
theorem dX9_carryOutNext_19 : decode cX9_carryOutNext 19 = .ok (.istore_n 2, 1) := by decide +kernel
theorem dX9_carryOutNext_20 : decode cX9_carryOutNext 20 = .ok (.aload_n 1, 1) := by decide +kernel
theorem dX9_carryOutNext_21 : decode cX9_carryOutNext 21 = .ok (.getfield 47, 3) := by decide +kernel
theorem dX9_carryOutNext_24 : decode cX9_carryOutNext 24 = .ok (.iload_n 2, 1) := by decide +kernel
theorem dX9_carryOutNext_25 : decode cX9_carryOutNext 25 = .ok (.invokevirtual 67, 3) := by decide +kernel
theorem dX9_carryOutNext_28 : decode cX9_carryOutNext 28 = .ok (.istore_n 3, 1) := by decide +kernel
theorem dX9_carryOutNext_29 : decode cX9_carryOutNext 29 = .ok (.aload_n 1, 1) := by decide +kernel
theorem dX9_carryOutNext_30 : decode cX9_carryOutNext 30 = .ok (.getfield 47, 3) := by decide +kernel
theorem dX9_carryOutNext_33 : decode cX9_carryOutNext 33 = .ok (.iload_n 2, 1) := by decide +kernel
theorem dX9_carryOutNext_34 : decode cX9_carryOutNext 34 = .ok (.invokevirtual 70, 3) := by decide +kernel
theorem dX9_carryOutNext_37 : decode cX9_carryOutNext 37 = .ok (.istore 4, 2) := by decide +kernel
theorem dX9_carryOutNext_39 : decode cX9_carryOutNext 39 = .ok (.aload_n 1, 1) := by decide +kernel
theorem dX9_carryOutNext_40 : decode cX9_carryOutNext 40 = .ok (.getfield 24, 3) := by decide +kernel
theorem dX9_carryOutNext_43 : decode cX9_carryOutNext 43 = .ok (.aload_n 1, 1) := by decide +kernel
theorem dX9_carryOutNext_44 : decode cX9_carryOutNext 44 = .ok (.getfield 47, 3) := by decide +kernel
theorem dX9_carryOutNext_47 : decode cX9_carryOutNext 47 = .ok (.iload_n 2, 1) := by decide +kernel
theorem dX9_carryOutNext_48 : decode cX9_carryOutNext 48 = .ok (.invokevirtual 73, 3) := by decide +kernel
theorem dX9_carryOutNext_51 : decode cX9_carryOutNext 51 = .ok (.ifCond .eq 24, 3) := by decide +kernel
theorem dX9_carryOutNext_54 : decode cX9_carryOutNext 54 = .ok (.aload_n 0, 1) := by decide +kernel
theorem dX9_carryOutNext_55 : decode cX9_carryOutNext 55 = .ok (.getfield 14, 3) := by decide +kernel
theorem dX9_carryOutNext_58 : decode cX9_carryOutNext 58 = .ok (.aload_n 1, 1) := by decide +kernel
theorem dX9_carryOutNext_59 : decode cX9_carryOutNext 59 = .ok (.getfield 47, 3) := by decide +kernel
theorem dX9_carryOutNext_62 : decode cX9_carryOutNext 62 = .ok (.iload_n 2, 1) := by decide +kernel
theorem dX9_carryOutNext_63 : decode cX9_carryOutNext 63 = .ok (.invokevirtual 77, 3) := by decide +kernel
theorem dX9_carryOutNext_66 : decode cX9_carryOutNext 66 = .ok (.iload_n 3, 1) := by decide +kernel
theorem dX9_carryOutNext_67 : decode cX9_carryOutNext 67 = .ok (.iload 4, 2) := by decide +kernel
theorem dX9_carryOutNext_69 : decode cX9_carryOutNext 69 = .ok (.invokevirtual 80, 3) := by decide +kernel
theorem dX9_carryOutNext_72 : decode cX9_carryOutNext 72 = .ok (.goto 37, 3) := by decide +kernel
theorem dX9_carryOutNext_75 : decode cX9_carryOutNext 75 = .ok (.iconst 0, 1) := by decide +kernel
theorem dX9_carryOutNext_76 : decode cX9_carryOutNext 76 = .ok (.istore 5, 2) := by decide +kernel
theorem dX9_carryOutNext_78 : decode cX9_carryOutNext 78 = .ok (.iload 5, 2) := by decide +kernel
theorem dX9_carryOutNext_80 : decode cX9_carryOutNext 80 = .ok (.iload 4, 2) := by decide +kernel
theorem dX9_carryOutNext_82 : decode cX9_carryOutNext 82 = .ok (.if_icmp .ge 27, 3) := by decide +kernel
theorem dX9_carryOutNext_85 : decode cX9_carryOutNext 85 = .ok (.aload_n 0, 1) := by decide +kernel
theorem dX9_carryOutNext_86 : decode cX9_carryOutNext 86 = .ok (.getfield 14, 3) := by decide +kernel
theorem dX9_carryOutNext_89 : decode cX9_carryOutNext 89 = .ok (.iload_n 3, 1) := by decide +kernel
theorem dX9_carryOutNext_90 : decode cX9_carryOutNext 90 = .ok (.iload 5, 2) := by decide +kernel
theorem dX9_carryOutNext_92 : decode cX9_carryOutNext 92 = .ok (.iadd, 1) := by decide +kernel
theorem dX9_carryOutNext_93 : decode cX9_carryOutNext 93 = .ok (.aload_n 1, 1) := by decide +kernel
theorem dX9_carryOutNext_94 : decode cX9_carryOutNext 94 = .ok (.iload_n 2, 1) := by decide +kernel
theorem dX9_carryOutNext_95 : decode cX9_carryOutNext 95 = .ok (.iload 5, 2) := by decide +kernel
theorem dX9_carryOutNext_97 : decode cX9_carryOutNext 97 = .ok (.invokevirtual 84, 3) := by decide +kernel
theorem dX9_carryOutNext_100 : decode cX9_carryOutNext 100 = .ok (.invokevirtual 88, 3) := by decide +kernel
theorem dX9_carryOutNext_103 : decode cX9_carryOutNext 103 = .ok (.iinc 5 1, 3) := by decide +kernel
theorem dX9_carryOutNext_106 : decode cX9_carryOutNext 106 = .ok (.goto (-28), 3) := by decide +kernel
theorem dX9_carryOutNext_109 : decode cX9_carryOutNext 109 = .ok (.aload_n 0, 1) := by decide +kernel
theorem dX9_carryOutNext_110 : decode cX9_carryOutNext 110 = .ok (.dup, 1) := by decide +kernel
theorem dX9_carryOutNext_111 : decode cX9_carryOutNext 111 = .ok (.getfield 36, 3) := by decide +kernel
theorem dX9_carryOutNext_114 : decode cX9_carryOutNext 114 = .ok (.iconst 1, 1) := by decide +kernel
theorem dX9_carryOutNext_115 : decode cX9_carryOutNext 115 = .ok (.isub, 1) := by decide +kernel
theorem dX9_carryOutNext_116 : decode cX9_carryOutNext 116 = .ok (.putfield 36, 3) := by decide +kernel
theorem dX9_carryOutNext_119 : decode cX9_carryOutNext 119 = .ok (.aload_n 0, 1) := by decide +kernel
theorem dX9_carryOutNext_120 : decode cX9_carryOutNext 120 = .ok (.aload_n 1, 1) := by decide +kernel
theorem dX9_carryOutNext_121 : decode cX9_carryOutNext 121 = .ok (.getfield 47, 3) := by decide +kernel
theorem dX9_carryOutNext_124 : decode cX9_carryOutNext 124 = .ok (.invokevirtual 59, 3) := by decide +kernel
theorem dX9_carryOutNext_127 : decode cX9_carryOutNext 127 = .ok (.return_, 1) := by decide +kernel
theorem dX9_cutIfFinished_0 : decode cX9_cutIfFinished 0 = .ok (.aload_n 0, 1) := by decide +kernel
theorem dX9_cutIfFinished_1 : decode cX9_cutIfFinished 1 = .ok (.getfield 36, 3) := by decide +kernel
theorem dX9_cutIfFinished_4 : decode cX9_cutIfFinished 4 = .ok (.ifCond .ne 14, 3) := by decide +kernel
theorem dX9_cutIfFinished_7 : decode cX9_cutIfFinished 7 = .ok (.aload_n 0, 1) := by decide +kernel
theorem dX9_cutIfFinished_8 : decode cX9_cutIfFinished 8 = .ok (.getfield 14, 3) := by decide +kernel
theorem dX9_cutIfFinished_11 : decode cX9_cutIfFinished 11 = .ok (.aload_n 1, 1) := by decide +kernel
theorem dX9_cutIfFinished_12 : decode cX9_cutIfFinished 12 = .ok (.getfield 51, 3) := by decide +kernel
theorem dX9_cutIfFinished_15 : decode cX9_cutIfFinished 15 = .ok (.invokevirtual 92, 3) := by decide +kernel
theorem dX9_cutIfFinished_18 : decode cX9_cutIfFinished 18 = .ok (.return_, 1) := by decide +kernel
theorem dX9_take_0 : decode cX9_take 0 = .ok (.aload_n 0, 1) := by decide +kernel
theorem dX9_take_1 : decode cX9_take 1 = .ok (.aload_n 1, 1) := by decide +kernel
theorem dX9_take_2 : decode cX9_take 2 = .ok (.getfield 20, 3) := by decide +kernel
theorem dX9_take_5 : decode cX9_take 5 = .ok (.putfield 20, 3) := by decide +kernel
theorem dX9_take_8 : decode cX9_take 8 = .ok (.aload_n 0, 1) := by decide +kernel
theorem dX9_take_9 : decode cX9_take 9 = .ok (.aload_n 1, 1) := by decide +kernel
theorem dX9_take_10 : decode cX9_take 10 = .ok (.getfield 36, 3) := by decide +kernel
theorem dX9_take_13 : decode cX9_take 13 = .ok (.putfield 36, 3) := by decide +kernel
theorem dX9_take_16 : decode cX9_take 16 = .ok (.aload_n 0, 1) := by decide +kernel
theorem dX9_take_17 : decode cX9_take 17 = .ok (.getfield 14, 3) := by decide +kernel
theorem dX9_take_20 : decode cX9_take 20 = .ok (.aload_n 1, 1) := by decide +kernel
theorem dX9_take_21 : decode cX9_take 21 = .ok (.getfield 14, 3) := by decide +kernel
theorem dX9_take_24 : decode cX9_take 24 = .ok (.invokevirtual 42, 3) := by decide +kernel
theorem dX9_take_27 : decode cX9_take 27 = .ok (.return_, 1) := by decide +kernel
theorem dX9_mixInto_0 : decode cX9_mixInto 0 = .ok (.aload_n 0, 1) := by decide +kernel
theorem dX9_mixInto_1 : decode cX9_mixInto 1 = .ok (.getfield 20, 3) := by decide +kernel
theorem dX9_mixInto_4 : decode cX9_mixInto 4 = .ok (.ifCond .ne 9, 3) := by decide +kernel
theorem dX9_mixInto_7 : decode cX9_mixInto 7 = .ok (.lload_n 1, 1) := by decide +kernel
theorem dX9_mixInto_8 : decode cX9_mixInto 8 = .ok (.lconst 0, 1) := by decide +kernel
theorem dX9_mixInto_9 : decode cX9_mixInto 9 = .ok (.invokestatic 95, 3) := by decide +kernel
theorem dX9_mixInto_12 : decode cX9_mixInto 12 = .ok (.lreturn, 1) := by decide +kernel
theorem dX9_mixInto_13 : decode cX9_mixInto 13 = .ok (.aload_n 0, 1) := by decide +kernel
theorem dX9_mixInto_14 : decode cX9_mixInto 14 = .ok (.getfield 14, 3) := by decide +kernel
theorem dX9_mixInto_17 : decode cX9_mixInto 17 = .ok (.lload_n 1, 1) := by decide +kernel
theorem dX9_mixInto_18 : decode cX9_mixInto 18 = .ok (.lconst 1, 1) := by decide +kernel
theorem dX9_mixInto_19 : decode cX9_mixInto 19 = .ok (.invokestatic 95, 3) := by decide +kernel
theorem dX9_mixInto_22 : decode cX9_mixInto 22 = .ok (.aload_n 0, 1) := by decide +kernel
theorem dX9_mixInto_23 : decode cX9_mixInto 23 = .ok (.getfield 36, 3) := by decide +kernel
theorem dX9_mixInto_26 : decode cX9_mixInto 26 = .ok (.i2l, 1) := by decide +kernel
theorem dX9_mixInto_27 : decode cX9_mixInto 27 = .ok (.invokestatic 95, 3) := by decide +kernel
theorem dX9_mixInto_30 : decode cX9_mixInto 30 = .ok (.invokevirtual 99, 3) := by decide +kernel
theorem dX9_mixInto_33 : decode cX9_mixInto 33 = .ok (.lreturn, 1) := by decide +kernel
theorem dX10_init_0 : decode cX10_init 0 = .ok (.aload_n 0, 1) := by decide +kernel
theorem dX10_init_1 : decode cX10_init 1 = .ok (.invokespecial 1, 3) := by decide +kernel
theorem dX10_init_4 : decode cX10_init 4 = .ok (.aload_n 0, 1) := by decide +kernel
theorem dX10_init_5 : decode cX10_init 5 = .ok (.new 7, 3) := by decide +kernel
theorem dX10_init_8 : decode cX10_init 8 = .ok (.dup, 1) := by decide +kernel
theorem dX10_init_9 : decode cX10_init 9 = .ok (.invokespecial 9, 3) := by decide +kernel
theorem dX10_init_12 : decode cX10_init 12 = .ok (.putfield 10, 3) := by decide +kernel
theorem dX10_init_15 : decode cX10_init 15 = .ok (.aload_n 0, 1) := by decide +kernel
theorem dX10_init_16 : decode cX10_init 16 = .ok (.new 16, 3) := by decide +kernel
theorem dX10_init_19 : decode cX10_init 19 = .ok (.dup, 1) := by decide +kernel
theorem dX10_init_20 : decode cX10_init 20 = .ok (.invokespecial 18, 3) := by decide +kernel
theorem dX10_init_23 : decode cX10_init 23 = .ok (.putfield 19, 3) := by decide +kernel
theorem dX10_init_26 : decode cX10_init 26 = .ok (.aload_n 0, 1) := by decide +kernel
theorem dX10_init_27 : decode cX10_init 27 = .ok (.new 23, 3) := by decide +kernel
theorem dX10_init_30 : decode cX10_init 30 = .ok (.dup, 1) := by decide +kernel
theorem dX10_init_31 : decode cX10_init 31 = .ok (.invokespecial 25, 3) := by decide +kernel
theorem dX10_init_34 : decode cX10_init 34 = .ok (.putfield 26, 3) := by decide +kernel
theorem dX10_init_37 : decode cX10_init 37 = .ok (.return_, 1) := by decide +kernel
theorem dX10_append_0 : decode cX10_append 0 = .ok (.iload_n 1, 1) := by decide +kernel
theorem dX10_append_1 : decode cX10_append 1 = .ok (.invokestatic 30, 3) := by decide +kernel
theorem dX10_append_4 : decode cX10_append 4 = .ok (.iload_n 2, 1) := by decide +kernel
theorem dX10_append_5 : decode cX10_append 5 = .ok (.invokestatic 34, 3) := by decide +kernel
theorem dX10_append_8 : decode cX10_append 8 = .ok (.aload_n 0, 1) := by decide +kernel
theorem dX10_append_9 : decode cX10_append 9 = .ok (.getfield 10, 3) := by decide +kernel
theorem dX10_append_12 : decode cX10_append 12 = .ok (.iload_n 1, 1) := by decide +kernel
theorem dX10_append_13 : decode cX10_append 13 = .ok (.invokevirtual 37, 3) := by decide +kernel
theorem dX10_append_16 : decode cX10_append 16 = .ok (.astore_n 3, 1) := by decide +kernel
theorem dX10_append_17 : decode cX10_append 17 = .ok (.aload_n 3, 1) := by decide +kernel
theorem dX10_append_18 : decode cX10_append 18 = .ok (.invokevirtual 41, 3) := by decide +kernel
theorem dX10_append_21 : decode cX10_append 21 = .ok (.ifCond .eq 13, 3) := by decide +kernel
theorem dX10_append_24 : decode cX10_append 24 = .ok (.new 47, 3) := by decide +kernel
theorem dX10_append_27 : decode cX10_append 27 = .ok (.dup, 1) := by decide +kernel
theorem dX10_append_28 : decode cX10_append 28 = .ok (.ldc 49, 2) := by decide +kernel
theorem dX10_append_30 : decode cX10_append 30 = .ok (.invokespecial 51, 3) := by decide +kernel
theorem dX10_append_33 : decode cX10_append 33 = .ok (.athrow, 1) := by decide +kernel
theorem dX10_append_34 : decode cX10_append 34 = .ok (.aload_n 0, 1) := by decide +kernel
theorem dX10_append_35 : decode cX10_append 35 = .ok (.getfield 19, 3) := by decide +kernel
theorem dX10_append_38 : decode cX10_append 38 = .ok (.aload_n 0, 1) := by decide +kernel
theorem dX10_append_39 : decode cX10_append 39 = .ok (.getfield 10, 3) := by decide +kernel
theorem dX10_append_42 : decode cX10_append 42 = .ok (.invokevirtual 54, 3) := by decide +kernel
theorem dX10_append_45 : decode cX10_append 45 = .ok (.aload_n 0, 1) := by decide +kernel
theorem dX10_append_46 : decode cX10_append 46 = .ok (.getfield 10, 3) := by decide +kernel
theorem dX10_append_49 : decode cX10_append 49 = .ok (.invokevirtual 58, 3) := by decide +kernel
theorem dX10_append_52 : decode cX10_append 52 = .ok (.aload_n 3, 1) := by decide +kernel
theorem dX10_append_53 : decode cX10_append 53 = .ok (.iload_n 2, 1) := by decide +kernel
theorem dX10_append_54 : decode cX10_append 54 = .ok (.invokevirtual 61, 3) := by decide +kernel
theorem dX10_append_57 : decode cX10_append 57 = .ok (.aload_n 3, 1) := by decide +kernel
theorem dX10_append_58 : decode cX10_append 58 = .ok (.getfield 64, 3) := by decide +kernel
theorem dX10_append_61 : decode cX10_append 61 = .ok (.ireturn, 1) := by decide +kernel
theorem dX10_patch_0 : decode cX10_patch 0 = .ok (.iload_n 1, 1) := by decide +kernel
theorem dX10_patch_1 : decode cX10_patch 1 = .ok (.invokestatic 30, 3) := by decide +kernel
theorem dX10_patch_4 : decode cX10_patch 4 = .ok (.iload_n 3, 1) := by decide +kernel
theorem dX10_patch_5 : decode cX10_patch 5 = .ok (.invokestatic 34, 3) := by decide +kernel
theorem dX10_patch_8 : decode cX10_patch 8 = .ok (.aload_n 0, 1) := by decide +kernel
theorem dX10_patch_9 : decode cX10_patch 9 = .ok (.getfield 10, 3) := by decide +kernel
theorem dX10_patch_12 : decode cX10_patch 12 = .ok (.iload_n 1, 1) := by decide +kernel
theorem dX10_patch_13 : decode cX10_patch 13 = .ok (.invokevirtual 37, 3) := by decide +kernel
theorem dX10_patch_16 : decode cX10_patch 16 = .ok (.astore 4, 2) := by decide +kernel
theorem dX10_patch_18 : decode cX10_patch 18 = .ok (.aload 4, 2) := by decide +kernel
theorem dX10_patch_20 : decode cX10_patch 20 = .ok (.iload_n 2, 1) := by decide +kernel
theorem dX10_patch_21 : decode cX10_patch 21 = .ok (.invokevirtual 68, 3) := by decide +kernel
theorem dX10_patch_24 : decode cX10_patch 24 = .ok (.invokestatic 72, 3) := by decide +kernel
theorem dX10_patch_27 : decode cX10_patch 27 = .ok (.aload_n 0, 1) := by decide +kernel
theorem dX10_patch_28 : decode cX10_patch 28 = .ok (.getfield 19, 3) := by decide +kernel
theorem dX10_patch_31 : decode cX10_patch 31 = .ok (.aload_n 0, 1) := by decide +kernel
theorem dX10_patch_32 : decode cX10_patch 32 = .ok (.getfield 10, 3) := by decide +kernel
theorem dX10_patch_35 : decode cX10_patch 35 = .ok (.invokevirtual 54, 3) := by decide +kernel
theorem dX10_patch_38 : decode cX10_patch 38 = .ok (.aload_n 0, 1) := by decide +kernel
theorem dX10_patch_39 : decode cX10_patch 39 = .ok (.getfield 10, 3) := by decide +kernel
theorem dX10_patch_42 : decode cX10_patch 42 = .ok (.invokevirtual 58, 3) := by decide +kernel
theorem dX10_patch_45 : decode cX10_patch 45 = .ok (.aload 4, 2) := by decide +kernel
theorem dX10_patch_47 : decode cX10_patch 47 = .ok (.iload_n 2, 1) := by decide +kernel
theorem dX10_patch_48 : decode cX10_patch 48 = .ok (.invokevirtual 76, 3) := by decide +kernel
theorem dX10_patch_51 : decode cX10_patch 51 = .ok (.istore 5, 2) := by decide +kernel
theorem dX10_patch_53 : decode cX10_patch 53 = .ok (.aload 4, 2) := by decide +kernel
theorem dX10_patch_55 : decode cX10_patch 55 = .ok (.iload_n 2, 1) := by decide +kernel
theorem dX10_patch_56 : decode cX10_patch 56 = .ok (.iload_n 3, 1) := by decide +kernel
theorem dX10_patch_57 : decode cX10_patch 57 = .ok (.invokevirtual 80, 3) := by decide +kernel
theorem dX10_patch_60 : decode cX10_patch 60 = .ok (.iload 5, 2) := by decide +kernel
theorem dX10_patch_62 : decode cX10_patch 62 = .ok (.ireturn, 1) := by decide +kernel
theorem dX10_clear_0 : decode cX10_clear 0 = .ok (.iload_n 1, 1) := by decide +kernel
theorem dX10_clear_1 : decode cX10_clear 1 = .ok (.invokestatic 30, 3) := by decide +kernel
theorem dX10_clear_4 : decode cX10_clear 4 = .ok (.aload_n 0, 1) := by decide +kernel
theorem dX10_clear_5 : decode cX10_clear 5 = .ok (.getfield 10, 3) := by decide +kernel
theorem dX10_clear_8 : decode cX10_clear 8 = .ok (.iload_n 1, 1) := by decide +kernel
theorem dX10_clear_9 : decode cX10_clear 9 = .ok (.invokevirtual 37, 3) := by decide +kernel
theorem dX10_clear_12 : decode cX10_clear 12 = .ok (.astore_n 2, 1) := by decide +kernel
theorem dX10_clear_13 : decode cX10_clear 13 = .ok (.aload_n 0, 1) := by decide +kernel
theorem dX10_clear_14 : decode cX10_clear 14 = .ok (.getfield 19, 3) := by decide +kernel
theorem dX10_clear_17 : decode cX10_clear 17 = .ok (.aload_n 0, 1) := by decide +kernel
theorem dX10_clear_18 : decode cX10_clear 18 = .ok (.getfield 10, 3) := by decide +kernel
theorem dX10_clear_21 : decode cX10_clear 21 = .ok (.invokevirtual 54, 3) := by decide +kernel
theorem dX10_clear_24 : decode cX10_clear 24 = .ok (.aload_n 0, 1) := by decide +kernel
theorem dX10_clear_25 : decode cX10_clear 25 = .ok (.getfield 10, 3) := by decide +kernel
theorem dX10_clear_28 : decode cX10_clear 28 = .ok (.invokevirtual 58, 3) := by decide +kernel
theorem dX10_clear_31 : decode cX10_clear 31 = .ok (.aload_n 2, 1) := by decide +kernel
theorem dX10_clear_32 : decode cX10_clear 32 = .ok (.getfield 64, 3) := by decide +kernel
theorem dX10_clear_35 : decode cX10_clear 35 = .ok (.istore_n 3, 1) := by decide +kernel
theorem dX10_clear_36 : decode cX10_clear 36 = .ok (.aload_n 2, 1) := by decide +kernel
theorem dX10_clear_37 : decode cX10_clear 37 = .ok (.iconst 0, 1) := by decide +kernel
theorem dX10_clear_38 : decode cX10_clear 38 = .ok (.invokevirtual 84, 3) := by decide +kernel
theorem dX10_clear_41 : decode cX10_clear 41 = .ok (.iload_n 3, 1) := by decide +kernel
theorem dX10_clear_42 : decode cX10_clear 42 = .ok (.ireturn, 1) := by decide +kernel
theorem dX10_byteOf_0 : decode cX10_byteOf 0 = .ok (.iload_n 1, 1) := by decide +kernel
theorem dX10_byteOf_1 : decode cX10_byteOf 1 = .ok (.invokestatic 30, 3) := by decide +kernel
theorem dX10_byteOf_4 : decode cX10_byteOf 4 = .ok (.aload_n 0, 1) := by decide +kernel
theorem dX10_byteOf_5 : decode cX10_byteOf 5 = .ok (.getfield 10, 3) := by decide +kernel
theorem dX10_byteOf_8 : decode cX10_byteOf 8 = .ok (.iload_n 1, 1) := by decide +kernel
theorem dX10_byteOf_9 : decode cX10_byteOf 9 = .ok (.invokevirtual 37, 3) := by decide +kernel
theorem dX10_byteOf_12 : decode cX10_byteOf 12 = .ok (.astore_n 3, 1) := by decide +kernel
theorem dX10_byteOf_13 : decode cX10_byteOf 13 = .ok (.aload_n 3, 1) := by decide +kernel
theorem dX10_byteOf_14 : decode cX10_byteOf 14 = .ok (.iload_n 2, 1) := by decide +kernel
theorem dX10_byteOf_15 : decode cX10_byteOf 15 = .ok (.invokevirtual 68, 3) := by decide +kernel
theorem dX10_byteOf_18 : decode cX10_byteOf 18 = .ok (.invokestatic 72, 3) := by decide +kernel
theorem dX10_byteOf_21 : decode cX10_byteOf 21 = .ok (.aload_n 3, 1) := by decide +kernel
theorem dX10_byteOf_22 : decode cX10_byteOf 22 = .ok (.iload_n 2, 1) := by decide +kernel
theorem dX10_byteOf_23 : decode cX10_byteOf 23 = .ok (.invokevirtual 76, 3) := by decide +kernel
theorem dX10_byteOf_26 : decode cX10_byteOf 26 = .ok (.ireturn, 1) := by decide +kernel
theorem dX10_make_0 : decode cX10_make 0 = .ok (.aload_n 0, 1) := by decide +kernel
theorem dX10_make_1 : decode cX10_make 1 = .ok (.getfield 19, 3) := by decide +kernel
theorem dX10_make_4 : decode cX10_make 4 = .ok (.aload_n 0, 1) := by decide +kernel
theorem dX10_make_5 : decode cX10_make 5 = .ok (.getfield 10, 3) := by decide +kernel
theorem dX10_make_8 : decode cX10_make 8 = .ok (.invokevirtual 54, 3) := by decide +kernel
theorem dX10_make_11 : decode cX10_make 11 = .ok (.aload_n 0, 1) := by decide +kernel
theorem dX10_make_12 : decode cX10_make 12 = .ok (.getfield 10, 3) := by decide +kernel
theorem dX10_make_15 : decode cX10_make 15 = .ok (.invokevirtual 58, 3) := by decide +kernel
theorem dX10_make_18 : decode cX10_make 18 = .ok (.aload_n 0, 1) := by decide +kernel
theorem dX10_make_19 : decode cX10_make 19 = .ok (.getfield 10, 3) := by decide +kernel
theorem dX10_make_22 : decode cX10_make 22 = .ok (.getfield 87, 3) := by decide +kernel
theorem dX10_make_25 : decode cX10_make 25 = .ok (.aload_n 0, 1) := by decide +kernel
theorem dX10_make_26 : decode cX10_make 26 = .ok (.getfield 10, 3) := by decide +kernel
theorem dX10_make_29 : decode cX10_make 29 = .ok (.getfield 91, 3) := by decide +kernel
theorem dX10_make_32 : decode cX10_make 32 = .ok (.aload_n 0, 1) := by decide +kernel
theorem dX10_make_33 : decode cX10_make 33 = .ok (.getfield 10, 3) := by decide +kernel
theorem dX10_make_36 : decode cX10_make 36 = .ok (.getfield 95, 3) := by decide +kernel
theorem dX10_make_39 : decode cX10_make 39 = .ok (.invokestatic 98, 3) := by decide +kernel
theorem dX10_make_42 : decode cX10_make 42 = .ok (.aload_n 0, 1) := by decide +kernel
theorem dX10_make_43 : decode cX10_make 43 = .ok (.getfield 10, 3) := by decide +kernel
theorem dX10_make_46 : decode cX10_make 46 = .ok (.getfield 87, 3) := by decide +kernel
theorem dX10_make_49 : decode cX10_make 49 = .ok (.getfield 104, 3) := by decide +kernel
theorem dX10_make_52 : decode cX10_make 52 = .ok (.ireturn, 1) := by decide +kernel
theorem dX10_commands_0 : decode cX10_commands 0 = .ok (.aload_n 0, 1) := by decide +kernel
theorem dX10_commands_1 : decode cX10_commands 1 = .ok (.getfield 10, 3) := by decide +kernel
theorem dX10_commands_4 : decode cX10_commands 4 = .ok (.getfield 87, 3) := by decide +kernel
theorem dX10_commands_7 : decode cX10_commands 7 = .ok (.getfield 104, 3) := by decide +kernel
theorem dX10_commands_10 : decode cX10_commands 10 = .ok (.ireturn, 1) := by decide +kernel
theorem dX10_command_0 : decode cX10_command 0 = .ok (.aload_n 0, 1) := by decide +kernel
theorem dX10_command_1 : decode cX10_command 1 = .ok (.getfield 10, 3) := by decide +kernel
theorem dX10_command_4 : decode cX10_command 4 = .ok (.getfield 87, 3) := by decide +kernel
theorem dX10_command_7 : decode cX10_command 7 = .ok (.iload_n 1, 1) := by decide +kernel
theorem dX10_command_8 : decode cX10_command 8 = .ok (.invokevirtual 107, 3) := by decide +kernel
theorem dX10_command_11 : decode cX10_command 11 = .ok (.invokestatic 72, 3) := by decide +kernel
theorem dX10_command_14 : decode cX10_command 14 = .ok (.iload_n 2, 1) := by decide +kernel
theorem dX10_command_15 : decode cX10_command 15 = .ok (.ifCond .lt 8, 3) := by decide +kernel
theorem dX10_command_18 : decode cX10_command 18 = .ok (.iload_n 2, 1) := by decide +kernel
theorem dX10_command_19 : decode cX10_command 19 = .ok (.iconst 3, 1) := by decide +kernel
theorem dX10_command_20 : decode cX10_command 20 = .ok (.if_icmp .le 13, 3) := by decide +kernel
theorem dX10_command_23 : decode cX10_command 23 = .ok (.new 108, 3) := by decide +kernel
theorem dX10_command_26 : decode cX10_command 26 = .ok (.dup, 1) := by decide +kernel
theorem dX10_command_27 : decode cX10_command 27 = .ok (.ldc 110, 2) := by decide +kernel
theorem dX10_command_29 : decode cX10_command 29 = .ok (.invokespecial 112, 3) := by decide +kernel
theorem dX10_command_32 : decode cX10_command 32 = .ok (.athrow, 1) := by decide +kernel
theorem dX10_command_33 : decode cX10_command 33 = .ok (.aload_n 0, 1) := by decide +kernel
theorem dX10_command_34 : decode cX10_command 34 = .ok (.getfield 10, 3) := by decide +kernel
theorem dX10_command_37 : decode cX10_command 37 = .ok (.getfield 87, 3) := by decide +kernel
theorem dX10_command_40 : decode cX10_command 40 = .ok (.iload_n 1, 1) := by decide +kernel
theorem dX10_command_41 : decode cX10_command 41 = .ok (.iload_n 2, 1) := by decide +kernel
theorem dX10_command_42 : decode cX10_command 42 = .ok (.invokevirtual 113, 3) := by decide +kernel
theorem dX10_command_45 : decode cX10_command 45 = .ok (.ireturn, 1) := by decide +kernel
theorem dX10_mustPrecede_0 : decode cX10_mustPrecede 0 = .ok (.aload_n 0, 1) := by decide +kernel
theorem dX10_mustPrecede_1 : decode cX10_mustPrecede 1 = .ok (.getfield 10, 3) := by decide +kernel
theorem dX10_mustPrecede_4 : decode cX10_mustPrecede 4 = .ok (.getfield 87, 3) := by decide +kernel
theorem dX10_mustPrecede_7 : decode cX10_mustPrecede 7 = .ok (.iload_n 1, 1) := by decide +kernel
theorem dX10_mustPrecede_8 : decode cX10_mustPrecede 8 = .ok (.invokevirtual 107, 3) := by decide +kernel
theorem dX10_mustPrecede_11 : decode cX10_mustPrecede 11 = .ok (.ifCond .eq 21, 3) := by decide +kernel
theorem dX10_mustPrecede_14 : decode cX10_mustPrecede 14 = .ok (.aload_n 0, 1) := by decide +kernel
theorem dX10_mustPrecede_15 : decode cX10_mustPrecede 15 = .ok (.getfield 10, 3) := by decide +kernel
theorem dX10_mustPrecede_18 : decode cX10_mustPrecede 18 = .ok (.getfield 87, 3) := by decide +kernel
theorem dX10_mustPrecede_21 : decode cX10_mustPrecede 21 = .ok (.iload_n 2, 1) := by decide +kernel
theorem dX10_mustPrecede_22 : decode cX10_mustPrecede 22 = .ok (.invokevirtual 107, 3) := by decide +kernel
theorem dX10_mustPrecede_25 : decode cX10_mustPrecede 25 = .ok (.ifCond .eq 7, 3) := by decide +kernel
theorem dX10_mustPrecede_28 : decode cX10_mustPrecede 28 = .ok (.iconst 1, 1) := by decide +kernel
theorem dX10_mustPrecede_29 : decode cX10_mustPrecede 29 = .ok (.goto 4, 3) := by decide +kernel
theorem dX10_mustPrecede_32 : decode cX10_mustPrecede 32 = .ok (.iconst 0, 1) := by decide +kernel
theorem dX10_mustPrecede_33 : decode cX10_mustPrecede 33 = .ok (.invokestatic 72, 3) := by decide +kernel
theorem dX10_mustPrecede_36 : decode cX10_mustPrecede 36 = .ok (.aload_n 0, 1) := by decide +kernel
theorem dX10_mustPrecede_37 : decode cX10_mustPrecede 37 = .ok (.getfield 10, 3) := by decide +kernel
theorem dX10_mustPrecede_40 : decode cX10_mustPrecede 40 = .ok (.getfield 87, 3) := by decide +kernel
theorem dX10_mustPrecede_43 : decode cX10_mustPrecede 43 = .ok (.iload_n 2, 1) := by decide +kernel
theorem dX10_mustPrecede_44 : decode cX10_mustPrecede 44 = .ok (.invokevirtual 117, 3) := by decide +kernel
theorem dX10_mustPrecede_47 : decode cX10_mustPrecede 47 = .ok (.iload_n 1, 1) := by decide +kernel
theorem dX10_mustPrecede_48 : decode cX10_mustPrecede 48 = .ok (.invokestatic 120, 3) := by decide +kernel
theorem dX10_mustPrecede_51 : decode cX10_mustPrecede 51 = .ok (.ireturn, 1) := by decide +kernel
theorem dX10_plan_0 : decode cX10_plan 0 = .ok (.iload_n 1, 1) := by decide +kernel
theorem dX10_plan_1 : decode cX10_plan 1 = .ok (.ifCond .lt 8, 3) := by decide +kernel
theorem dX10_plan_4 : decode cX10_plan 4 = .ok (.iload_n 1, 1) := by decide +kernel
theorem dX10_plan_5 : decode cX10_plan 5 = .ok (.iconst 2, 1) := by decide +kernel
theorem dX10_plan_6 : decode cX10_plan 6 = .ok (.if_icmp .le 13, 3) := by decide +kernel
theorem dX10_plan_9 : decode cX10_plan 9 = .ok (.new 108, 3) := by decide +kernel
theorem dX10_plan_12 : decode cX10_plan 12 = .ok (.dup, 1) := by decide +kernel
theorem dX10_plan_13 : decode cX10_plan 13 = .ok (.ldc 124, 2) := by decide +kernel
theorem dX10_plan_15 : decode cX10_plan 15 = .ok (.invokespecial 112, 3) := by decide +kernel
theorem dX10_plan_18 : decode cX10_plan 18 = .ok (.athrow, 1) := by decide +kernel
theorem dX10_plan_19 : decode cX10_plan 19 = .ok (.aload_n 0, 1) := by decide +kernel
theorem dX10_plan_20 : decode cX10_plan 20 = .ok (.getfield 10, 3) := by decide +kernel
theorem dX10_plan_23 : decode cX10_plan 23 = .ok (.getfield 91, 3) := by decide +kernel
theorem dX10_plan_26 : decode cX10_plan 26 = .ok (.getfield 64, 3) := by decide +kernel
theorem dX10_plan_29 : decode cX10_plan 29 = .ok (.aload_n 0, 1) := by decide +kernel
theorem dX10_plan_30 : decode cX10_plan 30 = .ok (.getfield 10, 3) := by decide +kernel
theorem dX10_plan_33 : decode cX10_plan 33 = .ok (.getfield 87, 3) := by decide +kernel
theorem dX10_plan_36 : decode cX10_plan 36 = .ok (.getfield 126, 3) := by decide +kernel
theorem dX10_plan_39 : decode cX10_plan 39 = .ok (.if_icmp .eq 13, 3) := by decide +kernel
theorem dX10_plan_42 : decode cX10_plan 42 = .ok (.new 47, 3) := by decide +kernel
theorem dX10_plan_45 : decode cX10_plan 45 = .ok (.dup, 1) := by decide +kernel
theorem dX10_plan_46 : decode cX10_plan 46 = .ok (.ldc 129, 2) := by decide +kernel
theorem dX10_plan_48 : decode cX10_plan 48 = .ok (.invokespecial 51, 3) := by decide +kernel
theorem dX10_plan_51 : decode cX10_plan 51 = .ok (.athrow, 1) := by decide +kernel
theorem dX10_plan_52 : decode cX10_plan 52 = .ok (.aload_n 0, 1) := by decide +kernel
theorem dX10_plan_53 : decode cX10_plan 53 = .ok (.getfield 19, 3) := by decide +kernel
theorem dX10_plan_56 : decode cX10_plan 56 = .ok (.aload_n 0, 1) := by decide +kernel
theorem dX10_plan_57 : decode cX10_plan 57 = .ok (.getfield 10, 3) := by decide +kernel
theorem dX10_plan_60 : decode cX10_plan 60 = .ok (.invokevirtual 54, 3) := by decide +kernel
theorem dX10_plan_63 : decode cX10_plan 63 = .ok (.aload_n 0, 1) := by decide +kernel
theorem dX10_plan_64 : decode cX10_plan 64 = .ok (.getfield 10, 3) := by decide +kernel
theorem dX10_plan_67 : decode cX10_plan 67 = .ok (.invokevirtual 58, 3) := by decide +kernel
theorem dX10_plan_70 : decode cX10_plan 70 = .ok (.aload_n 0, 1) := by decide +kernel
theorem dX10_plan_71 : decode cX10_plan 71 = .ok (.getfield 10, 3) := by decide +kernel
theorem dX10_plan_74 : decode cX10_plan 74 = .ok (.getfield 131, 3) := by decide +kernel
theorem dX10_plan_77 : decode cX10_plan 77 = .ok (.aload_n 0, 1) := by decide +kernel
theorem dX10_plan_78 : decode cX10_plan 78 = .ok (.getfield 10, 3) := by decide +kernel
theorem dX10_plan_81 : decode cX10_plan 81 = .ok (.getfield 87, 3) := by decide +kernel
theorem dX10_plan_84 : decode cX10_plan 84 = .ok (.iload_n 1, 1) := by decide +kernel
theorem dX10_plan_85 : decode cX10_plan 85 = .ok (.invokevirtual 135, 3) := by decide +kernel
theorem dX10_plan_88 : decode cX10_plan 88 = .ok (.aload_n 0, 1) := by decide +kernel
theorem dX10_plan_89 : decode cX10_plan 89 = .ok (.getfield 10, 3) := by decide +kernel
theorem dX10_plan_92 : decode cX10_plan 92 = .ok (.getfield 131, 3) := by decide +kernel
theorem dX10_plan_95 : decode cX10_plan 95 = .ok (.getfield 141, 3) := by decide +kernel
theorem dX10_plan_98 : decode cX10_plan 98 = .ok (.invokestatic 144, 3) := by decide +kernel
theorem dX10_plan_101 : decode cX10_plan 101 = .ok (.ireturn, 1) := by decide +kernel
theorem dX10_planned_0 : decode cX10_planned 0 = .ok (.aload_n 0, 1) := by decide +kernel
theorem dX10_planned_1 : decode cX10_planned 1 = .ok (.invokevirtual 149, 3) := by decide +kernel
theorem dX10_planned_4 : decode cX10_planned 4 = .ok (.aload_n 0, 1) := by decide +kernel
theorem dX10_planned_5 : decode cX10_planned 5 = .ok (.getfield 10, 3) := by decide +kernel
theorem dX10_planned_8 : decode cX10_planned 8 = .ok (.getfield 131, 3) := by decide +kernel
theorem dX10_planned_11 : decode cX10_planned 11 = .ok (.iload_n 1, 1) := by decide +kernel
theorem dX10_planned_12 : decode cX10_planned 12 = .ok (.invokevirtual 152, 3) := by decide +kernel
theorem dX10_planned_15 : decode cX10_planned 15 = .ok (.invokestatic 72, 3) := by decide +kernel
theorem dX10_planned_18 : decode cX10_planned 18 = .ok (.aload_n 0, 1) := by decide +kernel
theorem dX10_planned_19 : decode cX10_planned 19 = .ok (.getfield 10, 3) := by decide +kernel
theorem dX10_planned_22 : decode cX10_planned 22 = .ok (.getfield 131, 3) := by decide +kernel
theorem dX10_planned_25 : decode cX10_planned 25 = .ok (.iload_n 1, 1) := by decide +kernel
theorem dX10_planned_26 : decode cX10_planned 26 = .ok (.invokevirtual 153, 3) := by decide +kernel
theorem dX10_planned_29 : decode cX10_planned 29 = .ok (.ireturn, 1) := by decide +kernel
theorem dX10_converted_0 : decode cX10_converted 0 = .ok (.aload_n 0, 1) := by decide +kernel
theorem dX10_converted_1 : decode cX10_converted 1 = .ok (.invokevirtual 149, 3) := by decide +kernel
theorem dX10_converted_4 : decode cX10_converted 4 = .ok (.aload_n 0, 1) := by decide +kernel
theorem dX10_converted_5 : decode cX10_converted 5 = .ok (.getfield 10, 3) := by decide +kernel
theorem dX10_converted_8 : decode cX10_converted 8 = .ok (.getfield 131, 3) := by decide +kernel
theorem dX10_converted_11 : decode cX10_converted 11 = .ok (.getfield 141, 3) := by decide +kernel
theorem dX10_converted_14 : decode cX10_converted 14 = .ok (.ireturn, 1) := by decide +kernel
theorem dX10_loss_0 : decode cX10_loss 0 = .ok (.aload_n 0, 1) := by decide +kernel
theorem dX10_loss_1 : decode cX10_loss 1 = .ok (.invokevirtual 149, 3) := by decide +kernel
theorem dX10_loss_4 : decode cX10_loss 4 = .ok (.aload_n 0, 1) := by decide +kernel
theorem dX10_loss_5 : decode cX10_loss 5 = .ok (.getfield 10, 3) := by decide +kernel
theorem dX10_loss_8 : decode cX10_loss 8 = .ok (.getfield 131, 3) := by decide +kernel
theorem dX10_loss_11 : decode cX10_loss 11 = .ok (.getfield 154, 3) := by decide +kernel
theorem dX10_loss_14 : decode cX10_loss 14 = .ok (.ireturn, 1) := by decide +kernel
theorem dX10_leastLoss_0 : decode cX10_leastLoss 0 = .ok (.aload_n 0, 1) := by decide +kernel
theorem dX10_leastLoss_1 : decode cX10_leastLoss 1 = .ok (.getfield 10, 3) := by decide +kernel
theorem dX10_leastLoss_4 : decode cX10_leastLoss 4 = .ok (.getfield 87, 3) := by decide +kernel
theorem dX10_leastLoss_7 : decode cX10_leastLoss 7 = .ok (.invokevirtual 157, 3) := by decide +kernel
theorem dX10_leastLoss_10 : decode cX10_leastLoss 10 = .ok (.ireturn, 1) := by decide +kernel
theorem dX10_encode_0 : decode cX10_encode 0 = .ok (.aload_n 0, 1) := by decide +kernel
theorem dX10_encode_1 : decode cX10_encode 1 = .ok (.invokevirtual 149, 3) := by decide +kernel
theorem dX10_encode_4 : decode cX10_encode 4 = .ok (.aload_n 0, 1) := by decide +kernel
theorem dX10_encode_5 : decode cX10_encode 5 = .ok (.getfield 10, 3) := by decide +kernel
theorem dX10_encode_8 : decode cX10_encode 8 = .ok (.invokestatic 161, 3) := by decide +kernel
theorem dX10_encode_11 : decode cX10_encode 11 = .ok (.sipush 200, 3) := by decide +kernel
theorem dX10_encode_14 : decode cX10_encode 14 = .ok (.if_icmp .le 13, 3) := by decide +kernel
theorem dX10_encode_17 : decode cX10_encode 17 = .ok (.new 47, 3) := by decide +kernel
theorem dX10_encode_20 : decode cX10_encode 20 = .ok (.dup, 1) := by decide +kernel
theorem dX10_encode_21 : decode cX10_encode 21 = .ok (.ldc 167, 2) := by decide +kernel
theorem dX10_encode_23 : decode cX10_encode 23 = .ok (.invokespecial 51, 3) := by decide +kernel
theorem dX10_encode_26 : decode cX10_encode 26 = .ok (.athrow, 1) := by decide +kernel
theorem dX10_encode_27 : decode cX10_encode 27 = .ok (.aload_n 0, 1) := by decide +kernel
theorem dX10_encode_28 : decode cX10_encode 28 = .ok (.getfield 19, 3) := by decide +kernel
theorem dX10_encode_31 : decode cX10_encode 31 = .ok (.aload_n 0, 1) := by decide +kernel
theorem dX10_encode_32 : decode cX10_encode 32 = .ok (.getfield 10, 3) := by decide +kernel
theorem dX10_encode_35 : decode cX10_encode 35 = .ok (.invokevirtual 54, 3) := by decide +kernel
theorem dX10_encode_38 : decode cX10_encode 38 = .ok (.aload_n 0, 1) := by decide +kernel
theorem dX10_encode_39 : decode cX10_encode 39 = .ok (.getfield 10, 3) := by decide +kernel
theorem dX10_encode_42 : decode cX10_encode 42 = .ok (.invokestatic 169, 3) := by decide +kernel
theorem dX10_encode_45 : decode cX10_encode 45 = .ok (.aload_n 0, 1) := by decide +kernel
theorem dX10_encode_46 : decode cX10_encode 46 = .ok (.getfield 10, 3) := by decide +kernel
theorem dX10_encode_49 : decode cX10_encode 49 = .ok (.getfield 171, 3) := by decide +kernel
theorem dX10_encode_52 : decode cX10_encode 52 = .ok (.getfield 64, 3) := by decide +kernel
theorem dX10_encode_55 : decode cX10_encode 55 = .ok (.ireturn, 1) := by decide +kernel
theorem dX10_write_0 : decode cX10_write 0 = .ok (.iload_n 1, 1) := by decide +kernel
theorem dX10_write_1 : decode cX10_write 1 = .ok (.invokestatic 34, 3) := by decide +kernel
theorem dX10_write_4 : decode cX10_write 4 = .ok (.aload_n 0, 1) := by decide +kernel
theorem dX10_write_5 : decode cX10_write 5 = .ok (.getfield 10, 3) := by decide +kernel
theorem dX10_write_8 : decode cX10_write 8 = .ok (.getfield 171, 3) := by decide +kernel
theorem dX10_write_11 : decode cX10_write 11 = .ok (.invokevirtual 41, 3) := by decide +kernel
theorem dX10_write_14 : decode cX10_write 14 = .ok (.ifCond .eq 13, 3) := by decide +kernel
theorem dX10_write_17 : decode cX10_write 17 = .ok (.new 47, 3) := by decide +kernel
theorem dX10_write_20 : decode cX10_write 20 = .ok (.dup, 1) := by decide +kernel
theorem dX10_write_21 : decode cX10_write 21 = .ok (.ldc 174, 2) := by decide +kernel
theorem dX10_write_23 : decode cX10_write 23 = .ok (.invokespecial 51, 3) := by decide +kernel
theorem dX10_write_26 : decode cX10_write 26 = .ok (.athrow, 1) := by decide +kernel
theorem dX10_write_27 : decode cX10_write 27 = .ok (.aload_n 0, 1) := by decide +kernel
theorem dX10_write_28 : decode cX10_write 28 = .ok (.getfield 19, 3) := by decide +kernel
theorem dX10_write_31 : decode cX10_write 31 = .ok (.aload_n 0, 1) := by decide +kernel
theorem dX10_write_32 : decode cX10_write 32 = .ok (.getfield 10, 3) := by decide +kernel
theorem dX10_write_35 : decode cX10_write 35 = .ok (.invokevirtual 54, 3) := by decide +kernel
theorem dX10_write_38 : decode cX10_write 38 = .ok (.aload_n 0, 1) := by decide +kernel
theorem dX10_write_39 : decode cX10_write 39 = .ok (.getfield 10, 3) := by decide +kernel
theorem dX10_write_42 : decode cX10_write 42 = .ok (.getfield 171, 3) := by decide +kernel
theorem dX10_write_45 : decode cX10_write 45 = .ok (.iload_n 1, 1) := by decide +kernel
theorem dX10_write_46 : decode cX10_write 46 = .ok (.invokevirtual 61, 3) := by decide +kernel
theorem dX10_write_49 : decode cX10_write 49 = .ok (.aload_n 0, 1) := by decide +kernel
theorem dX10_write_50 : decode cX10_write 50 = .ok (.getfield 10, 3) := by decide +kernel
theorem dX10_write_53 : decode cX10_write 53 = .ok (.getfield 171, 3) := by decide +kernel
theorem dX10_write_56 : decode cX10_write 56 = .ok (.getfield 64, 3) := by decide +kernel
theorem dX10_write_59 : decode cX10_write 59 = .ok (.ireturn, 1) := by decide +kernel
theorem dX10_clearCode_0 : decode cX10_clearCode 0 = .ok (.aload_n 0, 1) := by decide +kernel
theorem dX10_clearCode_1 : decode cX10_clearCode 1 = .ok (.getfield 19, 3) := by decide +kernel
theorem dX10_clearCode_4 : decode cX10_clearCode 4 = .ok (.aload_n 0, 1) := by decide +kernel
theorem dX10_clearCode_5 : decode cX10_clearCode 5 = .ok (.getfield 10, 3) := by decide +kernel
theorem dX10_clearCode_8 : decode cX10_clearCode 8 = .ok (.invokevirtual 54, 3) := by decide +kernel
theorem dX10_clearCode_11 : decode cX10_clearCode 11 = .ok (.aload_n 0, 1) := by decide +kernel
theorem dX10_clearCode_12 : decode cX10_clearCode 12 = .ok (.getfield 10, 3) := by decide +kernel
theorem dX10_clearCode_15 : decode cX10_clearCode 15 = .ok (.getfield 171, 3) := by decide +kernel
theorem dX10_clearCode_18 : decode cX10_clearCode 18 = .ok (.getfield 64, 3) := by decide +kernel
theorem dX10_clearCode_21 : decode cX10_clearCode 21 = .ok (.istore_n 1, 1) := by decide +kernel
theorem dX10_clearCode_22 : decode cX10_clearCode 22 = .ok (.aload_n 0, 1) := by decide +kernel
theorem dX10_clearCode_23 : decode cX10_clearCode 23 = .ok (.getfield 10, 3) := by decide +kernel
theorem dX10_clearCode_26 : decode cX10_clearCode 26 = .ok (.getfield 171, 3) := by decide +kernel
theorem dX10_clearCode_29 : decode cX10_clearCode 29 = .ok (.iconst 0, 1) := by decide +kernel
theorem dX10_clearCode_30 : decode cX10_clearCode 30 = .ok (.invokevirtual 84, 3) := by decide +kernel
theorem dX10_clearCode_33 : decode cX10_clearCode 33 = .ok (.iload_n 1, 1) := by decide +kernel
theorem dX10_clearCode_34 : decode cX10_clearCode 34 = .ok (.ireturn, 1) := by decide +kernel
theorem dX10_code_0 : decode cX10_code 0 = .ok (.iload_n 1, 1) := by decide +kernel
theorem dX10_code_1 : decode cX10_code 1 = .ok (.invokestatic 176, 3) := by decide +kernel
theorem dX10_code_4 : decode cX10_code 4 = .ok (.aload_n 0, 1) := by decide +kernel
theorem dX10_code_5 : decode cX10_code 5 = .ok (.getfield 10, 3) := by decide +kernel
theorem dX10_code_8 : decode cX10_code 8 = .ok (.getfield 171, 3) := by decide +kernel
theorem dX10_code_11 : decode cX10_code 11 = .ok (.iload_n 1, 1) := by decide +kernel
theorem dX10_code_12 : decode cX10_code 12 = .ok (.invokevirtual 179, 3) := by decide +kernel
theorem dX10_code_15 : decode cX10_code 15 = .ok (.ireturn, 1) := by decide +kernel
theorem dX10_decode_0 : decode cX10_decode 0 = .ok (.aload_n 0, 1) := by decide +kernel
theorem dX10_decode_1 : decode cX10_decode 1 = .ok (.getfield 26, 3) := by decide +kernel
theorem dX10_decode_4 : decode cX10_decode 4 = .ok (.aload_n 0, 1) := by decide +kernel
theorem dX10_decode_5 : decode cX10_decode 5 = .ok (.getfield 10, 3) := by decide +kernel
theorem dX10_decode_8 : decode cX10_decode 8 = .ok (.getfield 171, 3) := by decide +kernel
theorem dX10_decode_11 : decode cX10_decode 11 = .ok (.invokevirtual 182, 3) := by decide +kernel
theorem dX10_decode_14 : decode cX10_decode 14 = .ok (.istore_n 1, 1) := by decide +kernel
theorem dX10_decode_15 : decode cX10_decode 15 = .ok (.iload_n 1, 1) := by decide +kernel
theorem dX10_decode_16 : decode cX10_decode 16 = .ok (.iconst (-1), 1) := by decide +kernel
theorem dX10_decode_17 : decode cX10_decode 17 = .ok (.if_icmp .eq 8, 3) := by decide +kernel
theorem dX10_decode_20 : decode cX10_decode 20 = .ok (.bipush (-10), 2) := by decide +kernel
theorem dX10_decode_22 : decode cX10_decode 22 = .ok (.iload_n 1, 1) := by decide +kernel
theorem dX10_decode_23 : decode cX10_decode 23 = .ok (.isub, 1) := by decide +kernel
theorem dX10_decode_24 : decode cX10_decode 24 = .ok (.ireturn, 1) := by decide +kernel
theorem dX10_decode_25 : decode cX10_decode 25 = .ok (.aload_n 0, 1) := by decide +kernel
theorem dX10_decode_26 : decode cX10_decode 26 = .ok (.getfield 19, 3) := by decide +kernel
theorem dX10_decode_29 : decode cX10_decode 29 = .ok (.aload_n 0, 1) := by decide +kernel
theorem dX10_decode_30 : decode cX10_decode 30 = .ok (.getfield 10, 3) := by decide +kernel
theorem dX10_decode_33 : decode cX10_decode 33 = .ok (.invokevirtual 54, 3) := by decide +kernel
theorem dX10_decode_36 : decode cX10_decode 36 = .ok (.aload_n 0, 1) := by decide +kernel
theorem dX10_decode_37 : decode cX10_decode 37 = .ok (.getfield 10, 3) := by decide +kernel
theorem dX10_decode_40 : decode cX10_decode 40 = .ok (.invokevirtual 58, 3) := by decide +kernel
theorem dX10_decode_43 : decode cX10_decode 43 = .ok (.aload_n 0, 1) := by decide +kernel
theorem dX10_decode_44 : decode cX10_decode 44 = .ok (.getfield 10, 3) := by decide +kernel
theorem dX10_decode_47 : decode cX10_decode 47 = .ok (.getfield 87, 3) := by decide +kernel
theorem dX10_decode_50 : decode cX10_decode 50 = .ok (.aload_n 0, 1) := by decide +kernel
theorem dX10_decode_51 : decode cX10_decode 51 = .ok (.getfield 26, 3) := by decide +kernel
theorem dX10_decode_54 : decode cX10_decode 54 = .ok (.getfield 186, 3) := by decide +kernel
theorem dX10_decode_57 : decode cX10_decode 57 = .ok (.invokevirtual 187, 3) := by decide +kernel
theorem dX10_decode_60 : decode cX10_decode 60 = .ok (.aload_n 0, 1) := by decide +kernel
theorem dX10_decode_61 : decode cX10_decode 61 = .ok (.getfield 10, 3) := by decide +kernel
theorem dX10_decode_64 : decode cX10_decode 64 = .ok (.getfield 87, 3) := by decide +kernel
theorem dX10_decode_67 : decode cX10_decode 67 = .ok (.getfield 104, 3) := by decide +kernel
theorem dX10_decode_70 : decode cX10_decode 70 = .ok (.ireturn, 1) := by decide +kernel
theorem dX10_begin_0 : decode cX10_begin 0 = .ok (.aload_n 0, 1) := by decide +kernel
theorem dX10_begin_1 : decode cX10_begin 1 = .ok (.invokevirtual 149, 3) := by decide +kernel
theorem dX10_begin_4 : decode cX10_begin 4 = .ok (.aload_n 0, 1) := by decide +kernel
theorem dX10_begin_5 : decode cX10_begin 5 = .ok (.getfield 19, 3) := by decide +kernel
theorem dX10_begin_8 : decode cX10_begin 8 = .ok (.aload_n 0, 1) := by decide +kernel
theorem dX10_begin_9 : decode cX10_begin 9 = .ok (.getfield 10, 3) := by decide +kernel
theorem dX10_begin_12 : decode cX10_begin 12 = .ok (.invokevirtual 54, 3) := by decide +kernel
theorem dX10_begin_15 : decode cX10_begin 15 = .ok (.aload_n 0, 1) := by decide +kernel
theorem dX10_begin_16 : decode cX10_begin 16 = .ok (.getfield 10, 3) := by decide +kernel
theorem dX10_begin_19 : decode cX10_begin 19 = .ok (.getfield 191, 3) := by decide +kernel
theorem dX10_begin_22 : decode cX10_begin 22 = .ok (.aload_n 0, 1) := by decide +kernel
theorem dX10_begin_23 : decode cX10_begin 23 = .ok (.getfield 10, 3) := by decide +kernel
theorem dX10_begin_26 : decode cX10_begin 26 = .ok (.invokevirtual 195, 3) := by decide +kernel
theorem dX10_begin_29 : decode cX10_begin 29 = .ok (.aload_n 0, 1) := by decide +kernel
theorem dX10_begin_30 : decode cX10_begin 30 = .ok (.getfield 10, 3) := by decide +kernel
theorem dX10_begin_33 : decode cX10_begin 33 = .ok (.getfield 191, 3) := by decide +kernel
theorem dX10_begin_36 : decode cX10_begin 36 = .ok (.getfield 200, 3) := by decide +kernel
theorem dX10_begin_39 : decode cX10_begin 39 = .ok (.ireturn, 1) := by decide +kernel
theorem dX10_step_0 : decode cX10_step 0 = .ok (.aload_n 0, 1) := by decide +kernel
theorem dX10_step_1 : decode cX10_step 1 = .ok (.invokevirtual 203, 3) := by decide +kernel
theorem dX10_step_4 : decode cX10_step 4 = .ok (.aload_n 0, 1) := by decide +kernel
theorem dX10_step_5 : decode cX10_step 5 = .ok (.getfield 10, 3) := by decide +kernel
theorem dX10_step_8 : decode cX10_step 8 = .ok (.getfield 191, 3) := by decide +kernel
theorem dX10_step_11 : decode cX10_step 11 = .ok (.getfield 200, 3) := by decide +kernel
theorem dX10_step_14 : decode cX10_step 14 = .ok (.ifCond .ne 13, 3) := by decide +kernel
theorem dX10_step_17 : decode cX10_step 17 = .ok (.new 47, 3) := by decide +kernel
theorem dX10_step_20 : decode cX10_step 20 = .ok (.dup, 1) := by decide +kernel
theorem dX10_step_21 : decode cX10_step 21 = .ok (.ldc 206, 2) := by decide +kernel
theorem dX10_step_23 : decode cX10_step 23 = .ok (.invokespecial 51, 3) := by decide +kernel
theorem dX10_step_26 : decode cX10_step 26 = .ok (.athrow, 1) := by decide +kernel
theorem dX10_step_27 : decode cX10_step 27 = .ok (.aload_n 0, 1) := by decide +kernel
theorem dX10_step_28 : decode cX10_step 28 = .ok (.getfield 19, 3) := by decide +kernel
theorem dX10_step_31 : decode cX10_step 31 = .ok (.aload_n 0, 1) := by decide +kernel
theorem dX10_step_32 : decode cX10_step 32 = .ok (.getfield 10, 3) := by decide +kernel
theorem dX10_step_35 : decode cX10_step 35 = .ok (.invokevirtual 54, 3) := by decide +kernel
theorem dX10_step_38 : decode cX10_step 38 = .ok (.aload_n 0, 1) := by decide +kernel
theorem dX10_step_39 : decode cX10_step 39 = .ok (.getfield 10, 3) := by decide +kernel
theorem dX10_step_42 : decode cX10_step 42 = .ok (.getfield 191, 3) := by decide +kernel
theorem dX10_step_45 : decode cX10_step 45 = .ok (.aload_n 0, 1) := by decide +kernel
theorem dX10_step_46 : decode cX10_step 46 = .ok (.getfield 10, 3) := by decide +kernel
theorem dX10_step_49 : decode cX10_step 49 = .ok (.invokevirtual 208, 3) := by decide +kernel
theorem dX10_step_52 : decode cX10_step 52 = .ok (.aload_n 0, 1) := by decide +kernel
theorem dX10_step_53 : decode cX10_step 53 = .ok (.getfield 10, 3) := by decide +kernel
theorem dX10_step_56 : decode cX10_step 56 = .ok (.getfield 191, 3) := by decide +kernel
theorem dX10_step_59 : decode cX10_step 59 = .ok (.getfield 200, 3) := by decide +kernel
theorem dX10_step_62 : decode cX10_step 62 = .ok (.ireturn, 1) := by decide +kernel
theorem dX10_workByte_0 : decode cX10_workByte 0 = .ok (.iload_n 1, 1) := by decide +kernel
theorem dX10_workByte_1 : decode cX10_workByte 1 = .ok (.invokestatic 176, 3) := by decide +kernel
theorem dX10_workByte_4 : decode cX10_workByte 4 = .ok (.aload_n 0, 1) := by decide +kernel
theorem dX10_workByte_5 : decode cX10_workByte 5 = .ok (.invokevirtual 203, 3) := by decide +kernel
theorem dX10_workByte_8 : decode cX10_workByte 8 = .ok (.aload_n 0, 1) := by decide +kernel
theorem dX10_workByte_9 : decode cX10_workByte 9 = .ok (.getfield 10, 3) := by decide +kernel
theorem dX10_workByte_12 : decode cX10_workByte 12 = .ok (.getfield 191, 3) := by decide +kernel
theorem dX10_workByte_15 : decode cX10_workByte 15 = .ok (.getfield 211, 3) := by decide +kernel
theorem dX10_workByte_18 : decode cX10_workByte 18 = .ok (.iload_n 1, 1) := by decide +kernel
theorem dX10_workByte_19 : decode cX10_workByte 19 = .ok (.invokevirtual 179, 3) := by decide +kernel
theorem dX10_workByte_22 : decode cX10_workByte 22 = .ok (.ireturn, 1) := by decide +kernel
theorem dX10_compare_0 : decode cX10_compare 0 = .ok (.aload_n 0, 1) := by decide +kernel
theorem dX10_compare_1 : decode cX10_compare 1 = .ok (.invokevirtual 203, 3) := by decide +kernel
theorem dX10_compare_4 : decode cX10_compare 4 = .ok (.aload_n 0, 1) := by decide +kernel
theorem dX10_compare_5 : decode cX10_compare 5 = .ok (.getfield 10, 3) := by decide +kernel
theorem dX10_compare_8 : decode cX10_compare 8 = .ok (.getfield 191, 3) := by decide +kernel
theorem dX10_compare_11 : decode cX10_compare 11 = .ok (.getfield 211, 3) := by decide +kernel
theorem dX10_compare_14 : decode cX10_compare 14 = .ok (.astore_n 1, 1) := by decide +kernel
theorem dX10_compare_15 : decode cX10_compare 15 = .ok (.aload_n 0, 1) := by decide +kernel
theorem dX10_compare_16 : decode cX10_compare 16 = .ok (.getfield 10, 3) := by decide +kernel
theorem dX10_compare_19 : decode cX10_compare 19 = .ok (.getfield 95, 3) := by decide +kernel
theorem dX10_compare_22 : decode cX10_compare 22 = .ok (.astore_n 2, 1) := by decide +kernel
theorem dX10_compare_23 : decode cX10_compare 23 = .ok (.aload_n 1, 1) := by decide +kernel
theorem dX10_compare_24 : decode cX10_compare 24 = .ok (.iconst 0, 1) := by decide +kernel
theorem dX10_compare_25 : decode cX10_compare 25 = .ok (.aload_n 2, 1) := by decide +kernel
theorem dX10_compare_26 : decode cX10_compare 26 = .ok (.iconst 0, 1) := by decide +kernel
theorem dX10_compare_27 : decode cX10_compare 27 = .ok (.invokevirtual 214, 3) := by decide +kernel
theorem dX10_compare_30 : decode cX10_compare 30 = .ok (.istore_n 3, 1) := by decide +kernel
theorem dX10_compare_31 : decode cX10_compare 31 = .ok (.iload_n 3, 1) := by decide +kernel
theorem dX10_compare_32 : decode cX10_compare 32 = .ok (.aload_n 1, 1) := by decide +kernel
theorem dX10_compare_33 : decode cX10_compare 33 = .ok (.getfield 64, 3) := by decide +kernel
theorem dX10_compare_36 : decode cX10_compare 36 = .ok (.if_icmp .ne 15, 3) := by decide +kernel
theorem dX10_compare_39 : decode cX10_compare 39 = .ok (.iload_n 3, 1) := by decide +kernel
theorem dX10_compare_40 : decode cX10_compare 40 = .ok (.aload_n 2, 1) := by decide +kernel
theorem dX10_compare_41 : decode cX10_compare 41 = .ok (.getfield 64, 3) := by decide +kernel
theorem dX10_compare_44 : decode cX10_compare 44 = .ok (.if_icmp .ne 7, 3) := by decide +kernel
theorem dX10_compare_47 : decode cX10_compare 47 = .ok (.iconst (-1), 1) := by decide +kernel
theorem dX10_compare_48 : decode cX10_compare 48 = .ok (.goto 4, 3) := by decide +kernel
theorem dX10_compare_51 : decode cX10_compare 51 = .ok (.iload_n 3, 1) := by decide +kernel
theorem dX10_compare_52 : decode cX10_compare 52 = .ok (.ireturn, 1) := by decide +kernel
theorem dX10_ratio_0 : decode cX10_ratio 0 = .ok (.aload_n 0, 1) := by decide +kernel
theorem dX10_ratio_1 : decode cX10_ratio 1 = .ok (.getfield 10, 3) := by decide +kernel
theorem dX10_ratio_4 : decode cX10_ratio 4 = .ok (.getfield 95, 3) := by decide +kernel
theorem dX10_ratio_7 : decode cX10_ratio 7 = .ok (.getfield 64, 3) := by decide +kernel
theorem dX10_ratio_10 : decode cX10_ratio 10 = .ok (.ifCond .ne 5, 3) := by decide +kernel
theorem dX10_ratio_13 : decode cX10_ratio 13 = .ok (.dconst 0, 1) := by decide +kernel
theorem dX10_ratio_14 : decode cX10_ratio 14 = .ok (.dreturn, 1) := by decide +kernel
theorem dX10_ratio_15 : decode cX10_ratio 15 = .ok (.aload_n 0, 1) := by decide +kernel
theorem dX10_ratio_16 : decode cX10_ratio 16 = .ok (.getfield 10, 3) := by decide +kernel
theorem dX10_ratio_19 : decode cX10_ratio 19 = .ok (.getfield 171, 3) := by decide +kernel
theorem dX10_ratio_22 : decode cX10_ratio 22 = .ok (.getfield 64, 3) := by decide +kernel
theorem dX10_ratio_25 : decode cX10_ratio 25 = .ok (.i2d, 1) := by decide +kernel
theorem dX10_ratio_26 : decode cX10_ratio 26 = .ok (.aload_n 0, 1) := by decide +kernel
theorem dX10_ratio_27 : decode cX10_ratio 27 = .ok (.getfield 10, 3) := by decide +kernel
theorem dX10_ratio_30 : decode cX10_ratio 30 = .ok (.getfield 95, 3) := by decide +kernel
theorem dX10_ratio_33 : decode cX10_ratio 33 = .ok (.getfield 64, 3) := by decide +kernel
theorem dX10_ratio_36 : decode cX10_ratio 36 = .ok (.i2d, 1) := by decide +kernel
theorem dX10_ratio_37 : decode cX10_ratio 37 = .ok (.ddiv, 1) := by decide +kernel
theorem dX10_ratio_38 : decode cX10_ratio 38 = .ok (.dreturn, 1) := by decide +kernel
theorem dX10_undo_0 : decode cX10_undo 0 = .ok (.aload_n 0, 1) := by decide +kernel
theorem dX10_undo_1 : decode cX10_undo 1 = .ok (.getfield 19, 3) := by decide +kernel
theorem dX10_undo_4 : decode cX10_undo 4 = .ok (.getfield 218, 3) := by decide +kernel
theorem dX10_undo_7 : decode cX10_undo 7 = .ok (.ifCond .ne 13, 3) := by decide +kernel
theorem dX10_undo_10 : decode cX10_undo 10 = .ok (.new 47, 3) := by decide +kernel
theorem dX10_undo_13 : decode cX10_undo 13 = .ok (.dup, 1) := by decide +kernel
theorem dX10_undo_14 : decode cX10_undo 14 = .ok (.ldc 219, 2) := by decide +kernel
theorem dX10_undo_16 : decode cX10_undo 16 = .ok (.invokespecial 51, 3) := by decide +kernel
theorem dX10_undo_19 : decode cX10_undo 19 = .ok (.athrow, 1) := by decide +kernel
theorem dX10_undo_20 : decode cX10_undo 20 = .ok (.aload_n 0, 1) := by decide +kernel
theorem dX10_undo_21 : decode cX10_undo 21 = .ok (.getfield 19, 3) := by decide +kernel
theorem dX10_undo_24 : decode cX10_undo 24 = .ok (.aload_n 0, 1) := by decide +kernel
theorem dX10_undo_25 : decode cX10_undo 25 = .ok (.getfield 10, 3) := by decide +kernel
theorem dX10_undo_28 : decode cX10_undo 28 = .ok (.invokevirtual 221, 3) := by decide +kernel
theorem dX10_undo_31 : decode cX10_undo 31 = .ok (.aload_n 0, 1) := by decide +kernel
theorem dX10_undo_32 : decode cX10_undo 32 = .ok (.getfield 19, 3) := by decide +kernel
theorem dX10_undo_35 : decode cX10_undo 35 = .ok (.getfield 218, 3) := by decide +kernel
theorem dX10_undo_38 : decode cX10_undo 38 = .ok (.ireturn, 1) := by decide +kernel
theorem dX10_digest_0 : decode cX10_digest 0 = .ok (.aload_n 0, 1) := by decide +kernel
theorem dX10_digest_1 : decode cX10_digest 1 = .ok (.getfield 10, 3) := by decide +kernel
theorem dX10_digest_4 : decode cX10_digest 4 = .ok (.getfield 91, 3) := by decide +kernel
theorem dX10_digest_7 : decode cX10_digest 7 = .ok (.ldc2_w 224, 3) := by decide +kernel
theorem dX10_digest_10 : decode cX10_digest 10 = .ok (.invokevirtual 226, 3) := by decide +kernel
theorem dX10_digest_13 : decode cX10_digest 13 = .ok (.lstore_n 1, 1) := by decide +kernel
theorem dX10_digest_14 : decode cX10_digest 14 = .ok (.aload_n 0, 1) := by decide +kernel
theorem dX10_digest_15 : decode cX10_digest 15 = .ok (.getfield 10, 3) := by decide +kernel
theorem dX10_digest_18 : decode cX10_digest 18 = .ok (.getfield 95, 3) := by decide +kernel
theorem dX10_digest_21 : decode cX10_digest 21 = .ok (.lload_n 1, 1) := by decide +kernel
theorem dX10_digest_22 : decode cX10_digest 22 = .ok (.invokevirtual 226, 3) := by decide +kernel
theorem dX10_digest_25 : decode cX10_digest 25 = .ok (.lstore_n 1, 1) := by decide +kernel
theorem dX10_digest_26 : decode cX10_digest 26 = .ok (.aload_n 0, 1) := by decide +kernel
theorem dX10_digest_27 : decode cX10_digest 27 = .ok (.getfield 10, 3) := by decide +kernel
theorem dX10_digest_30 : decode cX10_digest 30 = .ok (.getfield 87, 3) := by decide +kernel
theorem dX10_digest_33 : decode cX10_digest 33 = .ok (.lload_n 1, 1) := by decide +kernel
theorem dX10_digest_34 : decode cX10_digest 34 = .ok (.invokevirtual 230, 3) := by decide +kernel
theorem dX10_digest_37 : decode cX10_digest 37 = .ok (.lstore_n 1, 1) := by decide +kernel
theorem dX10_digest_38 : decode cX10_digest 38 = .ok (.lload_n 1, 1) := by decide +kernel
theorem dX10_digest_39 : decode cX10_digest 39 = .ok (.aload_n 0, 1) := by decide +kernel
theorem dX10_digest_40 : decode cX10_digest 40 = .ok (.getfield 10, 3) := by decide +kernel
theorem dX10_digest_43 : decode cX10_digest 43 = .ok (.getfield 87, 3) := by decide +kernel
theorem dX10_digest_46 : decode cX10_digest 46 = .ok (.invokevirtual 157, 3) := by decide +kernel
theorem dX10_digest_49 : decode cX10_digest 49 = .ok (.i2l, 1) := by decide +kernel
theorem dX10_digest_50 : decode cX10_digest 50 = .ok (.invokestatic 231, 3) := by decide +kernel
theorem dX10_digest_53 : decode cX10_digest 53 = .ok (.lstore_n 1, 1) := by decide +kernel
theorem dX10_digest_54 : decode cX10_digest 54 = .ok (.aload_n 0, 1) := by decide +kernel
theorem dX10_digest_55 : decode cX10_digest 55 = .ok (.getfield 10, 3) := by decide +kernel
theorem dX10_digest_58 : decode cX10_digest 58 = .ok (.getfield 131, 3) := by decide +kernel
theorem dX10_digest_61 : decode cX10_digest 61 = .ok (.lload_n 1, 1) := by decide +kernel
theorem dX10_digest_62 : decode cX10_digest 62 = .ok (.invokevirtual 235, 3) := by decide +kernel
theorem dX10_digest_65 : decode cX10_digest 65 = .ok (.lstore_n 1, 1) := by decide +kernel
theorem dX10_digest_66 : decode cX10_digest 66 = .ok (.aload_n 0, 1) := by decide +kernel
theorem dX10_digest_67 : decode cX10_digest 67 = .ok (.getfield 10, 3) := by decide +kernel
theorem dX10_digest_70 : decode cX10_digest 70 = .ok (.getfield 171, 3) := by decide +kernel
theorem dX10_digest_73 : decode cX10_digest 73 = .ok (.lload_n 1, 1) := by decide +kernel
theorem dX10_digest_74 : decode cX10_digest 74 = .ok (.invokevirtual 226, 3) := by decide +kernel
theorem dX10_digest_77 : decode cX10_digest 77 = .ok (.lstore_n 1, 1) := by decide +kernel
theorem dX10_digest_78 : decode cX10_digest 78 = .ok (.aload_n 0, 1) := by decide +kernel
theorem dX10_digest_79 : decode cX10_digest 79 = .ok (.getfield 10, 3) := by decide +kernel
theorem dX10_digest_82 : decode cX10_digest 82 = .ok (.getfield 191, 3) := by decide +kernel
theorem dX10_digest_85 : decode cX10_digest 85 = .ok (.lload_n 1, 1) := by decide +kernel
theorem dX10_digest_86 : decode cX10_digest 86 = .ok (.invokevirtual 236, 3) := by decide +kernel
theorem dX10_digest_89 : decode cX10_digest 89 = .ok (.lstore_n 1, 1) := by decide +kernel
theorem dX10_digest_90 : decode cX10_digest 90 = .ok (.lload_n 1, 1) := by decide +kernel
theorem dX10_digest_91 : decode cX10_digest 91 = .ok (.aload_n 0, 1) := by decide +kernel
theorem dX10_digest_92 : decode cX10_digest 92 = .ok (.getfield 19, 3) := by decide +kernel
theorem dX10_digest_95 : decode cX10_digest 95 = .ok (.getfield 218, 3) := by decide +kernel
theorem dX10_digest_98 : decode cX10_digest 98 = .ok (.i2l, 1) := by decide +kernel
theorem dX10_digest_99 : decode cX10_digest 99 = .ok (.invokestatic 231, 3) := by decide +kernel
theorem dX10_digest_102 : decode cX10_digest 102 = .ok (.lreturn, 1) := by decide +kernel
theorem dX10_requireVersion_0 : decode cX10_requireVersion 0 = .ok (.iload_n 0, 1) := by decide +kernel
theorem dX10_requireVersion_1 : decode cX10_requireVersion 1 = .ok (.ifCond .eq 18, 3) := by decide +kernel
theorem dX10_requireVersion_4 : decode cX10_requireVersion 4 = .ok (.iload_n 0, 1) := by decide +kernel
theorem dX10_requireVersion_5 : decode cX10_requireVersion 5 = .ok (.iconst 1, 1) := by decide +kernel
theorem dX10_requireVersion_6 : decode cX10_requireVersion 6 = .ok (.if_icmp .eq 13, 3) := by decide +kernel
theorem dX10_requireVersion_9 : decode cX10_requireVersion 9 = .ok (.new 108, 3) := by decide +kernel
theorem dX10_requireVersion_12 : decode cX10_requireVersion 12 = .ok (.dup, 1) := by decide +kernel
theorem dX10_requireVersion_13 : decode cX10_requireVersion 13 = .ok (.ldc 237, 2) := by decide +kernel
theorem dX10_requireVersion_15 : decode cX10_requireVersion 15 = .ok (.invokespecial 112, 3) := by decide +kernel
theorem dX10_requireVersion_18 : decode cX10_requireVersion 18 = .ok (.athrow, 1) := by decide +kernel
theorem dX10_requireVersion_19 : decode cX10_requireVersion 19 = .ok (.return_, 1) := by decide +kernel
theorem dX10_requireByte_0 : decode cX10_requireByte 0 = .ok (.iload_n 0, 1) := by decide +kernel
theorem dX10_requireByte_1 : decode cX10_requireByte 1 = .ok (.ifCond .lt 10, 3) := by decide +kernel
theorem dX10_requireByte_4 : decode cX10_requireByte 4 = .ok (.iload_n 0, 1) := by decide +kernel
theorem dX10_requireByte_5 : decode cX10_requireByte 5 = .ok (.sipush 255, 3) := by decide +kernel
theorem dX10_requireByte_8 : decode cX10_requireByte 8 = .ok (.if_icmp .le 13, 3) := by decide +kernel
theorem dX10_requireByte_11 : decode cX10_requireByte 11 = .ok (.new 108, 3) := by decide +kernel
theorem dX10_requireByte_14 : decode cX10_requireByte 14 = .ok (.dup, 1) := by decide +kernel
theorem dX10_requireByte_15 : decode cX10_requireByte 15 = .ok (.ldc 239, 2) := by decide +kernel
theorem dX10_requireByte_17 : decode cX10_requireByte 17 = .ok (.invokespecial 112, 3) := by decide +kernel
theorem dX10_requireByte_20 : decode cX10_requireByte 20 = .ok (.athrow, 1) := by decide +kernel
theorem dX10_requireByte_21 : decode cX10_requireByte 21 = .ok (.return_, 1) := by decide +kernel
theorem dX10_requireIndex_0 : decode cX10_requireIndex 0 = .ok (.iload_n 0, 1) := by decide +kernel
theorem dX10_requireIndex_1 : decode cX10_requireIndex 1 = .ok (.ifCond .ne 13, 3) := by decide +kernel
theorem dX10_requireIndex_4 : decode cX10_requireIndex 4 = .ok (.new 241, 3) := by decide +kernel
theorem dX10_requireIndex_7 : decode cX10_requireIndex 7 = .ok (.dup, 1) := by decide +kernel
theorem dX10_requireIndex_8 : decode cX10_requireIndex 8 = .ok (.ldc 243, 2) := by decide +kernel
theorem dX10_requireIndex_10 : decode cX10_requireIndex 10 = .ok (.invokespecial 245, 3) := by decide +kernel
theorem dX10_requireIndex_13 : decode cX10_requireIndex 13 = .ok (.athrow, 1) := by decide +kernel
theorem dX10_requireIndex_14 : decode cX10_requireIndex 14 = .ok (.return_, 1) := by decide +kernel
theorem dX10_requireIndexOrLength_0 : decode cX10_requireIndexOrLength 0 = .ok (.iload_n 0, 1) := by decide +kernel
theorem dX10_requireIndexOrLength_1 : decode cX10_requireIndexOrLength 1 = .ok (.iconst (-1), 1) := by decide +kernel
theorem dX10_requireIndexOrLength_2 : decode cX10_requireIndexOrLength 2 = .ok (.if_icmp .ge 13, 3) := by decide +kernel
theorem dX10_requireIndexOrLength_5 : decode cX10_requireIndexOrLength 5 = .ok (.new 108, 3) := by decide +kernel
theorem dX10_requireIndexOrLength_8 : decode cX10_requireIndexOrLength 8 = .ok (.dup, 1) := by decide +kernel
theorem dX10_requireIndexOrLength_9 : decode cX10_requireIndexOrLength 9 = .ok (.ldc 246, 2) := by decide +kernel
theorem dX10_requireIndexOrLength_11 : decode cX10_requireIndexOrLength 11 = .ok (.invokespecial 112, 3) := by decide +kernel
theorem dX10_requireIndexOrLength_14 : decode cX10_requireIndexOrLength 14 = .ok (.athrow, 1) := by decide +kernel
theorem dX10_requireIndexOrLength_15 : decode cX10_requireIndexOrLength 15 = .ok (.return_, 1) := by decide +kernel
theorem dX10_requirePlan_0 : decode cX10_requirePlan 0 = .ok (.aload_n 0, 1) := by decide +kernel
theorem dX10_requirePlan_1 : decode cX10_requirePlan 1 = .ok (.getfield 10, 3) := by decide +kernel
theorem dX10_requirePlan_4 : decode cX10_requirePlan 4 = .ok (.getfield 131, 3) := by decide +kernel
theorem dX10_requirePlan_7 : decode cX10_requirePlan 7 = .ok (.getfield 248, 3) := by decide +kernel
theorem dX10_requirePlan_10 : decode cX10_requirePlan 10 = .ok (.ifCond .ne 13, 3) := by decide +kernel
theorem dX10_requirePlan_13 : decode cX10_requirePlan 13 = .ok (.new 47, 3) := by decide +kernel
theorem dX10_requirePlan_16 : decode cX10_requirePlan 16 = .ok (.dup, 1) := by decide +kernel
theorem dX10_requirePlan_17 : decode cX10_requirePlan 17 = .ok (.ldc 252, 2) := by decide +kernel
theorem dX10_requirePlan_19 : decode cX10_requirePlan 19 = .ok (.invokespecial 51, 3) := by decide +kernel
theorem dX10_requirePlan_22 : decode cX10_requirePlan 22 = .ok (.athrow, 1) := by decide +kernel
theorem dX10_requirePlan_23 : decode cX10_requirePlan 23 = .ok (.return_, 1) := by decide +kernel
theorem dX10_requireWork_0 : decode cX10_requireWork 0 = .ok (.aload_n 0, 1) := by decide +kernel
theorem dX10_requireWork_1 : decode cX10_requireWork 1 = .ok (.getfield 10, 3) := by decide +kernel
theorem dX10_requireWork_4 : decode cX10_requireWork 4 = .ok (.getfield 191, 3) := by decide +kernel
theorem dX10_requireWork_7 : decode cX10_requireWork 7 = .ok (.getfield 254, 3) := by decide +kernel
theorem dX10_requireWork_10 : decode cX10_requireWork 10 = .ok (.ifCond .ne 13, 3) := by decide +kernel
theorem dX10_requireWork_13 : decode cX10_requireWork 13 = .ok (.new 47, 3) := by decide +kernel
theorem dX10_requireWork_16 : decode cX10_requireWork 16 = .ok (.dup, 1) := by decide +kernel
theorem dX10_requireWork_17 : decode cX10_requireWork 17 = .ok (.ldc 255, 2) := by decide +kernel
theorem dX10_requireWork_19 : decode cX10_requireWork 19 = .ok (.invokespecial 51, 3) := by decide +kernel
theorem dX10_requireWork_22 : decode cX10_requireWork 22 = .ok (.athrow, 1) := by decide +kernel
theorem dX10_requireWork_23 : decode cX10_requireWork 23 = .ok (.return_, 1) := by decide +kernel
theorem dX10_mix_0 : decode cX10_mix 0 = .ok (.ldc2_w 257, 3) := by decide +kernel
theorem dX10_mix_3 : decode cX10_mix 3 = .ok (.lload_n 0, 1) := by decide +kernel
theorem dX10_mix_4 : decode cX10_mix 4 = .ok (.lmul, 1) := by decide +kernel
theorem dX10_mix_5 : decode cX10_mix 5 = .ok (.lload_n 2, 1) := by decide +kernel
theorem dX10_mix_6 : decode cX10_mix 6 = .ok (.ladd, 1) := by decide +kernel
theorem dX10_mix_7 : decode cX10_mix 7 = .ok (.lreturn, 1) := by decide +kernel
theorem dX10_overlap_0 : decode cX10_overlap 0 = .ok (.iload_n 0, 1) := by decide +kernel
theorem dX10_overlap_1 : decode cX10_overlap 1 = .ok (.iload_n 2, 1) := by decide +kernel
theorem dX10_overlap_2 : decode cX10_overlap 2 = .ok (.iload_n 3, 1) := by decide +kernel
theorem dX10_overlap_3 : decode cX10_overlap 3 = .ok (.iadd, 1) := by decide +kernel
theorem dX10_overlap_4 : decode cX10_overlap 4 = .ok (.if_icmp .ge 14, 3) := by decide +kernel
theorem dX10_overlap_7 : decode cX10_overlap 7 = .ok (.iload_n 2, 1) := by decide +kernel
theorem dX10_overlap_8 : decode cX10_overlap 8 = .ok (.iload_n 0, 1) := by decide +kernel
theorem dX10_overlap_9 : decode cX10_overlap 9 = .ok (.iload_n 1, 1) := by decide +kernel
theorem dX10_overlap_10 : decode cX10_overlap 10 = .ok (.iadd, 1) := by decide +kernel
theorem dX10_overlap_11 : decode cX10_overlap 11 = .ok (.if_icmp .ge 7, 3) := by decide +kernel
theorem dX10_overlap_14 : decode cX10_overlap 14 = .ok (.iconst 1, 1) := by decide +kernel
theorem dX10_overlap_15 : decode cX10_overlap 15 = .ok (.goto 4, 3) := by decide +kernel
theorem dX10_overlap_18 : decode cX10_overlap 18 = .ok (.iconst 0, 1) := by decide +kernel
theorem dX10_overlap_19 : decode cX10_overlap 19 = .ok (.ireturn, 1) := by decide +kernel
theorem dX10_isIn_0 : decode cX10_isIn 0 = .ok (.iload_n 0, 1) := by decide +kernel
theorem dX10_isIn_1 : decode cX10_isIn 1 = .ok (.iload_n 1, 1) := by decide +kernel
theorem dX10_isIn_2 : decode cX10_isIn 2 = .ok (.ishr, 1) := by decide +kernel
theorem dX10_isIn_3 : decode cX10_isIn 3 = .ok (.iconst 1, 1) := by decide +kernel
theorem dX10_isIn_4 : decode cX10_isIn 4 = .ok (.iand, 1) := by decide +kernel
theorem dX10_isIn_5 : decode cX10_isIn 5 = .ok (.ifCond .eq 7, 3) := by decide +kernel
theorem dX10_isIn_8 : decode cX10_isIn 8 = .ok (.iconst 1, 1) := by decide +kernel
theorem dX10_isIn_9 : decode cX10_isIn 9 = .ok (.goto 4, 3) := by decide +kernel
theorem dX10_isIn_12 : decode cX10_isIn 12 = .ok (.iconst 0, 1) := by decide +kernel
theorem dX10_isIn_13 : decode cX10_isIn 13 = .ok (.ireturn, 1) := by decide +kernel
theorem dX10_without_0 : decode cX10_without 0 = .ok (.iload_n 0, 1) := by decide +kernel
theorem dX10_without_1 : decode cX10_without 1 = .ok (.iconst 1, 1) := by decide +kernel
theorem dX10_without_2 : decode cX10_without 2 = .ok (.iload_n 1, 1) := by decide +kernel
theorem dX10_without_3 : decode cX10_without 3 = .ok (.ishl, 1) := by decide +kernel
theorem dX10_without_4 : decode cX10_without 4 = .ok (.iconst (-1), 1) := by decide +kernel
theorem dX10_without_5 : decode cX10_without 5 = .ok (.ixor, 1) := by decide +kernel
theorem dX10_without_6 : decode cX10_without 6 = .ok (.iand, 1) := by decide +kernel
theorem dX10_without_7 : decode cX10_without 7 = .ok (.ireturn, 1) := by decide +kernel
theorem dX11_init_0 : decode cX11_init 0 = .ok (.aload_n 0, 1) := by decide +kernel
theorem dX11_init_1 : decode cX11_init 1 = .ok (.invokespecial 1, 3) := by decide +kernel
theorem dX11_init_4 : decode cX11_init 4 = .ok (.aload_n 0, 1) := by decide +kernel
theorem dX11_init_5 : decode cX11_init 5 = .ok (.sipush 617, 3) := by decide +kernel
theorem dX11_init_8 : decode cX11_init 8 = .ok (.newarray .int, 2) := by decide +kernel
theorem dX11_init_10 : decode cX11_init 10 = .ok (.putfield 7, 3) := by decide +kernel
theorem dX11_init_13 : decode cX11_init 13 = .ok (.aload_n 0, 1) := by decide +kernel
theorem dX11_init_14 : decode cX11_init 14 = .ok (.sipush 2468, 3) := by decide +kernel
theorem dX11_init_17 : decode cX11_init 17 = .ok (.newarray .int, 2) := by decide +kernel
theorem dX11_init_19 : decode cX11_init 19 = .ok (.putfield 13, 3) := by decide +kernel
theorem dX11_init_22 : decode cX11_init 22 = .ok (.aload_n 0, 1) := by decide +kernel
theorem dX11_init_23 : decode cX11_init 23 = .ok (.bipush 30, 2) := by decide +kernel
theorem dX11_init_25 : decode cX11_init 25 = .ok (.newarray .int, 2) := by decide +kernel
theorem dX11_init_27 : decode cX11_init 27 = .ok (.putfield 16, 3) := by decide +kernel
theorem dX11_init_30 : decode cX11_init 30 = .ok (.aload_n 0, 1) := by decide +kernel
theorem dX11_init_31 : decode cX11_init 31 = .ok (.sipush 4000, 3) := by decide +kernel
theorem dX11_init_34 : decode cX11_init 34 = .ok (.newarray .int, 2) := by decide +kernel
theorem dX11_init_36 : decode cX11_init 36 = .ok (.putfield 19, 3) := by decide +kernel
theorem dX11_init_39 : decode cX11_init 39 = .ok (.aload_n 0, 1) := by decide +kernel
theorem dX11_init_40 : decode cX11_init 40 = .ok (.bipush 120, 2) := by decide +kernel
theorem dX11_init_42 : decode cX11_init 42 = .ok (.newarray .int, 2) := by decide +kernel
theorem dX11_init_44 : decode cX11_init 44 = .ok (.putfield 22, 3) := by decide +kernel
theorem dX11_init_47 : decode cX11_init 47 = .ok (.aload_n 0, 1) := by decide +kernel
theorem dX11_init_48 : decode cX11_init 48 = .ok (.bipush 64, 2) := by decide +kernel
theorem dX11_init_50 : decode cX11_init 50 = .ok (.newarray .int, 2) := by decide +kernel
theorem dX11_init_52 : decode cX11_init 52 = .ok (.putfield 25, 3) := by decide +kernel
theorem dX11_init_55 : decode cX11_init 55 = .ok (.aload_n 0, 1) := by decide +kernel
theorem dX11_init_56 : decode cX11_init 56 = .ok (.bipush 64, 2) := by decide +kernel
theorem dX11_init_58 : decode cX11_init 58 = .ok (.newarray .boolean, 2) := by decide +kernel
theorem dX11_init_60 : decode cX11_init 60 = .ok (.putfield 28, 3) := by decide +kernel
theorem dX11_init_63 : decode cX11_init 63 = .ok (.aload_n 0, 1) := by decide +kernel
theorem dX11_init_64 : decode cX11_init 64 = .ok (.bipush 64, 2) := by decide +kernel
theorem dX11_init_66 : decode cX11_init 66 = .ok (.newarray .int, 2) := by decide +kernel
theorem dX11_init_68 : decode cX11_init 68 = .ok (.putfield 32, 3) := by decide +kernel
theorem dX11_init_71 : decode cX11_init 71 = .ok (.return_, 1) := by decide +kernel
theorem dX11_thrown_0 : decode cX11_thrown 0 = .ok (.aload_n 0, 1) := by decide +kernel
theorem dX11_thrown_1 : decode cX11_thrown 1 = .ok (.getfield 35, 3) := by decide +kernel
theorem dX11_thrown_4 : decode cX11_thrown 4 = .ok (.ireturn, 1) := by decide +kernel
theorem dX11_in_0 : decode cX11_in 0 = .ok (.lload_n 0, 1) := by decide +kernel
theorem dX11_in_1 : decode cX11_in 1 = .ok (.lload_n 2, 1) := by decide +kernel
theorem dX11_in_2 : decode cX11_in 2 = .ok (.lcmp, 1) := by decide +kernel
theorem dX11_in_3 : decode cX11_in 3 = .ok (.ifCond .lt 14, 3) := by decide +kernel
theorem dX11_in_6 : decode cX11_in 6 = .ok (.lload_n 0, 1) := by decide +kernel
theorem dX11_in_7 : decode cX11_in 7 = .ok (.lload 4, 2) := by decide +kernel
theorem dX11_in_9 : decode cX11_in 9 = .ok (.lcmp, 1) := by decide +kernel
theorem dX11_in_10 : decode cX11_in 10 = .ok (.ifCond .gt 7, 3) := by decide +kernel
theorem dX11_in_13 : decode cX11_in 13 = .ok (.iconst 1, 1) := by decide +kernel
theorem dX11_in_14 : decode cX11_in 14 = .ok (.goto 4, 3) := by decide +kernel
theorem dX11_in_17 : decode cX11_in 17 = .ok (.iconst 0, 1) := by decide +kernel
theorem dX11_in_18 : decode cX11_in 18 = .ok (.ireturn, 1) := by decide +kernel
theorem dX11_goes_0 : decode cX11_goes 0 = .ok (.aload_n 0, 1) := by decide +kernel
theorem dX11_goes_1 : decode cX11_goes 1 = .ok (.iload_n 1, 1) := by decide +kernel
theorem dX11_goes_2 : decode cX11_goes 2 = .ok (.ifCond .ne 7, 3) := by decide +kernel
theorem dX11_goes_5 : decode cX11_goes 5 = .ok (.iconst 1, 1) := by decide +kernel
theorem dX11_goes_6 : decode cX11_goes 6 = .ok (.goto 12, 3) := by decide +kernel
theorem dX11_goes_9 : decode cX11_goes 9 = .ok (.iload_n 2, 1) := by decide +kernel
theorem dX11_goes_10 : decode cX11_goes 10 = .ok (.ifCond .ne 7, 3) := by decide +kernel
theorem dX11_goes_13 : decode cX11_goes 13 = .ok (.iconst 2, 1) := by decide +kernel
theorem dX11_goes_14 : decode cX11_goes 14 = .ok (.goto 4, 3) := by decide +kernel
theorem dX11_goes_17 : decode cX11_goes 17 = .ok (.iconst 0, 1) := by decide +kernel
theorem dX11_goes_18 : decode cX11_goes 18 = .ok (.putfield 35, 3) := by decide +kernel
theorem dX11_goes_21 : decode cX11_goes 21 = .ok (.aload_n 0, 1) := by decide +kernel
theorem dX11_goes_22 : decode cX11_goes 22 = .ok (.getfield 35, 3) := by decide +kernel
theorem dX11_goes_25 : decode cX11_goes 25 = .ok (.ifCond .ne 7, 3) := by decide +kernel
theorem dX11_goes_28 : decode cX11_goes 28 = .ok (.iconst 1, 1) := by decide +kernel
theorem dX11_goes_29 : decode cX11_goes 29 = .ok (.goto 4, 3) := by decide +kernel
theorem dX11_goes_32 : decode cX11_goes 32 = .ok (.iconst 0, 1) := by decide +kernel
theorem dX11_goes_33 : decode cX11_goes 33 = .ok (.ireturn, 1) := by decide +kernel
theorem dX11_save_0 : decode cX11_save 0 = .ok (.aload_n 0, 1) := by decide +kernel
theorem dX11_save_1 : decode cX11_save 1 = .ok (.getfield 39, 3) := by decide +kernel
theorem dX11_save_4 : decode cX11_save 4 = .ok (.iconst 4, 1) := by decide +kernel
theorem dX11_save_5 : decode cX11_save 5 = .ok (.if_icmp .ne 44, 3) := by decide +kernel
theorem dX11_save_8 : decode cX11_save 8 = .ok (.iconst 0, 1) := by decide +kernel
theorem dX11_save_9 : decode cX11_save 9 = .ok (.istore_n 1, 1) := by decide +kernel
theorem dX11_save_10 : decode cX11_save 10 = .ok (.iload_n 1, 1) := by decide +kernel
theorem dX11_save_11 : decode cX11_save 11 = .ok (.sipush 1851, 3) := by decide +kernel
theorem dX11_save_14 : decode cX11_save 14 = .ok (.if_icmp .ge 25, 3) := by decide +kernel
theorem dX11_save_17 : decode cX11_save 17 = .ok (.aload_n 0, 1) := by decide +kernel
theorem dX11_save_18 : decode cX11_save 18 = .ok (.getfield 13, 3) := by decide +kernel
theorem dX11_save_21 : decode cX11_save 21 = .ok (.iload_n 1, 1) := by decide +kernel
theorem dX11_save_22 : decode cX11_save 22 = .ok (.aload_n 0, 1) := by decide +kernel
theorem dX11_save_23 : decode cX11_save 23 = .ok (.getfield 13, 3) := by decide +kernel
theorem dX11_save_26 : decode cX11_save 26 = .ok (.iload_n 1, 1) := by decide +kernel
theorem dX11_save_27 : decode cX11_save 27 = .ok (.sipush 617, 3) := by decide +kernel
theorem dX11_save_30 : decode cX11_save 30 = .ok (.iadd, 1) := by decide +kernel
theorem dX11_save_31 : decode cX11_save 31 = .ok (.iaload, 1) := by decide +kernel
theorem dX11_save_32 : decode cX11_save 32 = .ok (.iastore, 1) := by decide +kernel
theorem dX11_save_33 : decode cX11_save 33 = .ok (.iinc 1 1, 3) := by decide +kernel
theorem dX11_save_36 : decode cX11_save 36 = .ok (.goto (-26), 3) := by decide +kernel
theorem dX11_save_39 : decode cX11_save 39 = .ok (.aload_n 0, 1) := by decide +kernel
theorem dX11_save_40 : decode cX11_save 40 = .ok (.dup, 1) := by decide +kernel
theorem dX11_save_41 : decode cX11_save 41 = .ok (.getfield 39, 3) := by decide +kernel
theorem dX11_save_44 : decode cX11_save 44 = .ok (.iconst 1, 1) := by decide +kernel
theorem dX11_save_45 : decode cX11_save 45 = .ok (.isub, 1) := by decide +kernel
theorem dX11_save_46 : decode cX11_save 46 = .ok (.putfield 39, 3) := by decide +kernel
theorem dX11_save_49 : decode cX11_save 49 = .ok (.iconst 0, 1) := by decide +kernel
theorem dX11_save_50 : decode cX11_save 50 = .ok (.istore_n 1, 1) := by decide +kernel
theorem dX11_save_51 : decode cX11_save 51 = .ok (.iload_n 1, 1) := by decide +kernel
theorem dX11_save_52 : decode cX11_save 52 = .ok (.sipush 617, 3) := by decide +kernel
theorem dX11_save_55 : decode cX11_save 55 = .ok (.if_icmp .ge 30, 3) := by decide +kernel
theorem dX11_save_58 : decode cX11_save 58 = .ok (.aload_n 0, 1) := by decide +kernel
theorem dX11_save_59 : decode cX11_save 59 = .ok (.getfield 13, 3) := by decide +kernel
theorem dX11_save_62 : decode cX11_save 62 = .ok (.sipush 617, 3) := by decide +kernel
theorem dX11_save_65 : decode cX11_save 65 = .ok (.aload_n 0, 1) := by decide +kernel
theorem dX11_save_66 : decode cX11_save 66 = .ok (.getfield 39, 3) := by decide +kernel
theorem dX11_save_69 : decode cX11_save 69 = .ok (.imul, 1) := by decide +kernel
theorem dX11_save_70 : decode cX11_save 70 = .ok (.iload_n 1, 1) := by decide +kernel
theorem dX11_save_71 : decode cX11_save 71 = .ok (.iadd, 1) := by decide +kernel
theorem dX11_save_72 : decode cX11_save 72 = .ok (.aload_n 0, 1) := by decide +kernel
theorem dX11_save_73 : decode cX11_save 73 = .ok (.getfield 7, 3) := by decide +kernel
theorem dX11_save_76 : decode cX11_save 76 = .ok (.iload_n 1, 1) := by decide +kernel
theorem dX11_save_77 : decode cX11_save 77 = .ok (.iaload, 1) := by decide +kernel
theorem dX11_save_78 : decode cX11_save 78 = .ok (.iastore, 1) := by decide +kernel
theorem dX11_save_79 : decode cX11_save 79 = .ok (.iinc 1 1, 3) := by decide +kernel
theorem dX11_save_82 : decode cX11_save 82 = .ok (.goto (-31), 3) := by decide +kernel
theorem dX11_save_85 : decode cX11_save 85 = .ok (.aload_n 0, 1) := by decide +kernel
theorem dX11_save_86 : decode cX11_save 86 = .ok (.dup, 1) := by decide +kernel
theorem dX11_save_87 : decode cX11_save 87 = .ok (.getfield 39, 3) := by decide +kernel
theorem dX11_save_90 : decode cX11_save 90 = .ok (.iconst 1, 1) := by decide +kernel
theorem dX11_save_91 : decode cX11_save 91 = .ok (.iadd, 1) := by decide +kernel
theorem dX11_save_92 : decode cX11_save 92 = .ok (.putfield 39, 3) := by decide +kernel
theorem dX11_save_95 : decode cX11_save 95 = .ok (.return_, 1) := by decide +kernel
theorem dX11_isByte_0 : decode cX11_isByte 0 = .ok (.iload_n 0, 1) := by decide +kernel
theorem dX11_isByte_1 : decode cX11_isByte 1 = .ok (.i2l, 1) := by decide +kernel
theorem dX11_isByte_2 : decode cX11_isByte 2 = .ok (.lconst 0, 1) := by decide +kernel
theorem dX11_isByte_3 : decode cX11_isByte 3 = .ok (.ldc2_w 42, 3) := by decide +kernel
theorem dX11_isByte_6 : decode cX11_isByte 6 = .ok (.invokestatic 44, 3) := by decide +kernel
theorem dX11_isByte_9 : decode cX11_isByte 9 = .ok (.ireturn, 1) := by decide +kernel
theorem dX11_isVersion_0 : decode cX11_isVersion 0 = .ok (.iload_n 0, 1) := by decide +kernel
theorem dX11_isVersion_1 : decode cX11_isVersion 1 = .ok (.i2l, 1) := by decide +kernel
theorem dX11_isVersion_2 : decode cX11_isVersion 2 = .ok (.lconst 0, 1) := by decide +kernel
theorem dX11_isVersion_3 : decode cX11_isVersion 3 = .ok (.lconst 1, 1) := by decide +kernel
theorem dX11_isVersion_4 : decode cX11_isVersion 4 = .ok (.invokestatic 44, 3) := by decide +kernel
theorem dX11_isVersion_7 : decode cX11_isVersion 7 = .ok (.ireturn, 1) := by decide +kernel
theorem dX11_dropsPlan_0 : decode cX11_dropsPlan 0 = .ok (.aload_n 0, 1) := by decide +kernel
theorem dX11_dropsPlan_1 : decode cX11_dropsPlan 1 = .ok (.getfield 7, 3) := by decide +kernel
theorem dX11_dropsPlan_4 : decode cX11_dropsPlan 4 = .ok (.sipush 317, 3) := by decide +kernel
theorem dX11_dropsPlan_7 : decode cX11_dropsPlan 7 = .ok (.iconst 0, 1) := by decide +kernel
theorem dX11_dropsPlan_8 : decode cX11_dropsPlan 8 = .ok (.iastore, 1) := by decide +kernel
theorem dX11_dropsPlan_9 : decode cX11_dropsPlan 9 = .ok (.aload_n 0, 1) := by decide +kernel
theorem dX11_dropsPlan_10 : decode cX11_dropsPlan 10 = .ok (.getfield 7, 3) := by decide +kernel
theorem dX11_dropsPlan_13 : decode cX11_dropsPlan 13 = .ok (.sipush 550, 3) := by decide +kernel
theorem dX11_dropsPlan_16 : decode cX11_dropsPlan 16 = .ok (.iconst 0, 1) := by decide +kernel
theorem dX11_dropsPlan_17 : decode cX11_dropsPlan 17 = .ok (.iastore, 1) := by decide +kernel
theorem dX11_dropsPlan_18 : decode cX11_dropsPlan 18 = .ok (.return_, 1) := by decide +kernel
theorem dX11_longOf_0 : decode cX11_longOf 0 = .ok (.aload_n 0, 1) := by decide +kernel
theorem dX11_longOf_1 : decode cX11_longOf 1 = .ok (.getfield 7, 3) := by decide +kernel
theorem dX11_longOf_4 : decode cX11_longOf 4 = .ok (.iconst 0, 1) := by decide +kernel
theorem dX11_longOf_5 : decode cX11_longOf 5 = .ok (.iload_n 1, 1) := by decide +kernel
theorem dX11_longOf_6 : decode cX11_longOf 6 = .ok (.iadd, 1) := by decide +kernel
theorem dX11_longOf_7 : decode cX11_longOf 7 = .ok (.iaload, 1) := by decide +kernel
theorem dX11_longOf_8 : decode cX11_longOf 8 = .ok (.ireturn, 1) := by decide +kernel
theorem dX11_byteAt_0 : decode cX11_byteAt 0 = .ok (.aload_n 0, 1) := by decide +kernel
theorem dX11_byteAt_1 : decode cX11_byteAt 1 = .ok (.getfield 7, 3) := by decide +kernel
theorem dX11_byteAt_4 : decode cX11_byteAt 4 = .ok (.iconst 2, 1) := by decide +kernel
theorem dX11_byteAt_5 : decode cX11_byteAt 5 = .ok (.bipush 64, 2) := by decide +kernel
theorem dX11_byteAt_7 : decode cX11_byteAt 7 = .ok (.iload_n 1, 1) := by decide +kernel
theorem dX11_byteAt_8 : decode cX11_byteAt 8 = .ok (.imul, 1) := by decide +kernel
theorem dX11_byteAt_9 : decode cX11_byteAt 9 = .ok (.iadd, 1) := by decide +kernel
theorem dX11_byteAt_10 : decode cX11_byteAt 10 = .ok (.iload_n 2, 1) := by decide +kernel
theorem dX11_byteAt_11 : decode cX11_byteAt 11 = .ok (.iadd, 1) := by decide +kernel
theorem dX11_byteAt_12 : decode cX11_byteAt 12 = .ok (.iaload, 1) := by decide +kernel
theorem dX11_byteAt_13 : decode cX11_byteAt 13 = .ok (.ireturn, 1) := by decide +kernel
theorem dX11_append_0 : decode cX11_append 0 = .ok (.aload_n 0, 1) := by decide +kernel
theorem dX11_append_1 : decode cX11_append 1 = .ok (.iload_n 1, 1) := by decide +kernel
theorem dX11_append_2 : decode cX11_append 2 = .ok (.invokestatic 48, 3) := by decide +kernel
theorem dX11_append_5 : decode cX11_append 5 = .ok (.ifCond .eq 14, 3) := by decide +kernel
theorem dX11_append_8 : decode cX11_append 8 = .ok (.iload_n 2, 1) := by decide +kernel
theorem dX11_append_9 : decode cX11_append 9 = .ok (.invokestatic 52, 3) := by decide +kernel
theorem dX11_append_12 : decode cX11_append 12 = .ok (.ifCond .eq 7, 3) := by decide +kernel
theorem dX11_append_15 : decode cX11_append 15 = .ok (.iconst 1, 1) := by decide +kernel
theorem dX11_append_16 : decode cX11_append 16 = .ok (.goto 4, 3) := by decide +kernel
theorem dX11_append_19 : decode cX11_append 19 = .ok (.iconst 0, 1) := by decide +kernel
theorem dX11_append_20 : decode cX11_append 20 = .ok (.iload_n 1, 1) := by decide +kernel
theorem dX11_append_21 : decode cX11_append 21 = .ok (.invokestatic 48, 3) := by decide +kernel
theorem dX11_append_24 : decode cX11_append 24 = .ok (.ifCond .eq 13, 3) := by decide +kernel
theorem dX11_append_27 : decode cX11_append 27 = .ok (.aload_n 0, 1) := by decide +kernel
theorem dX11_append_28 : decode cX11_append 28 = .ok (.iload_n 1, 1) := by decide +kernel
theorem dX11_append_29 : decode cX11_append 29 = .ok (.invokevirtual 55, 3) := by decide +kernel
theorem dX11_append_32 : decode cX11_append 32 = .ok (.bipush 64, 2) := by decide +kernel
theorem dX11_append_34 : decode cX11_append 34 = .ok (.if_icmp .ge 7, 3) := by decide +kernel
theorem dX11_append_37 : decode cX11_append 37 = .ok (.iconst 1, 1) := by decide +kernel
theorem dX11_append_38 : decode cX11_append 38 = .ok (.goto 4, 3) := by decide +kernel
theorem dX11_append_41 : decode cX11_append 41 = .ok (.iconst 0, 1) := by decide +kernel
theorem dX11_append_42 : decode cX11_append 42 = .ok (.invokevirtual 59, 3) := by decide +kernel
theorem dX11_append_45 : decode cX11_append 45 = .ok (.ifCond .ne 5, 3) := by decide +kernel
theorem dX11_append_48 : decode cX11_append 48 = .ok (.iconst 0, 1) := by decide +kernel
theorem dX11_append_49 : decode cX11_append 49 = .ok (.ireturn, 1) := by decide +kernel
theorem dX11_append_50 : decode cX11_append 50 = .ok (.aload_n 0, 1) := by decide +kernel
theorem dX11_append_51 : decode cX11_append 51 = .ok (.invokevirtual 63, 3) := by decide +kernel
theorem dX11_append_54 : decode cX11_append 54 = .ok (.aload_n 0, 1) := by decide +kernel
theorem dX11_append_55 : decode cX11_append 55 = .ok (.getfield 7, 3) := by decide +kernel
theorem dX11_append_58 : decode cX11_append 58 = .ok (.iconst 2, 1) := by decide +kernel
theorem dX11_append_59 : decode cX11_append 59 = .ok (.bipush 64, 2) := by decide +kernel
theorem dX11_append_61 : decode cX11_append 61 = .ok (.iload_n 1, 1) := by decide +kernel
theorem dX11_append_62 : decode cX11_append 62 = .ok (.imul, 1) := by decide +kernel
theorem dX11_append_63 : decode cX11_append 63 = .ok (.iadd, 1) := by decide +kernel
theorem dX11_append_64 : decode cX11_append 64 = .ok (.aload_n 0, 1) := by decide +kernel
theorem dX11_append_65 : decode cX11_append 65 = .ok (.iload_n 1, 1) := by decide +kernel
theorem dX11_append_66 : decode cX11_append 66 = .ok (.invokevirtual 55, 3) := by decide +kernel
theorem dX11_append_69 : decode cX11_append 69 = .ok (.iadd, 1) := by decide +kernel
theorem dX11_append_70 : decode cX11_append 70 = .ok (.iload_n 2, 1) := by decide +kernel
theorem dX11_append_71 : decode cX11_append 71 = .ok (.iastore, 1) := by decide +kernel
theorem dX11_append_72 : decode cX11_append 72 = .ok (.aload_n 0, 1) := by decide +kernel
theorem dX11_append_73 : decode cX11_append 73 = .ok (.getfield 7, 3) := by decide +kernel
theorem dX11_append_76 : decode cX11_append 76 = .ok (.iconst 0, 1) := by decide +kernel
theorem dX11_append_77 : decode cX11_append 77 = .ok (.iload_n 1, 1) := by decide +kernel
theorem dX11_append_78 : decode cX11_append 78 = .ok (.iadd, 1) := by decide +kernel
theorem dX11_append_79 : decode cX11_append 79 = .ok (.dup2, 1) := by decide +kernel
theorem dX11_append_80 : decode cX11_append 80 = .ok (.iaload, 1) := by decide +kernel
theorem dX11_append_81 : decode cX11_append 81 = .ok (.iconst 1, 1) := by decide +kernel
theorem dX11_append_82 : decode cX11_append 82 = .ok (.iadd, 1) := by decide +kernel
theorem dX11_append_83 : decode cX11_append 83 = .ok (.iastore, 1) := by decide +kernel
theorem dX11_append_84 : decode cX11_append 84 = .ok (.aload_n 0, 1) := by decide +kernel
theorem dX11_append_85 : decode cX11_append 85 = .ok (.invokevirtual 66, 3) := by decide +kernel
theorem dX11_append_88 : decode cX11_append 88 = .ok (.aload_n 0, 1) := by decide +kernel
theorem dX11_append_89 : decode cX11_append 89 = .ok (.iload_n 1, 1) := by decide +kernel
theorem dX11_append_90 : decode cX11_append 90 = .ok (.invokevirtual 55, 3) := by decide +kernel
theorem dX11_append_93 : decode cX11_append 93 = .ok (.ireturn, 1) := by decide +kernel
theorem dX11_hasByte_0 : decode cX11_hasByte 0 = .ok (.iload_n 1, 1) := by decide +kernel
theorem dX11_hasByte_1 : decode cX11_hasByte 1 = .ok (.invokestatic 48, 3) := by decide +kernel
theorem dX11_hasByte_4 : decode cX11_hasByte 4 = .ok (.ifCond .eq 20, 3) := by decide +kernel
theorem dX11_hasByte_7 : decode cX11_hasByte 7 = .ok (.iload_n 2, 1) := by decide +kernel
theorem dX11_hasByte_8 : decode cX11_hasByte 8 = .ok (.i2l, 1) := by decide +kernel
theorem dX11_hasByte_9 : decode cX11_hasByte 9 = .ok (.lconst 0, 1) := by decide +kernel
theorem dX11_hasByte_10 : decode cX11_hasByte 10 = .ok (.aload_n 0, 1) := by decide +kernel
theorem dX11_hasByte_11 : decode cX11_hasByte 11 = .ok (.iload_n 1, 1) := by decide +kernel
theorem dX11_hasByte_12 : decode cX11_hasByte 12 = .ok (.invokevirtual 55, 3) := by decide +kernel
theorem dX11_hasByte_15 : decode cX11_hasByte 15 = .ok (.iconst 1, 1) := by decide +kernel
theorem dX11_hasByte_16 : decode cX11_hasByte 16 = .ok (.isub, 1) := by decide +kernel
theorem dX11_hasByte_17 : decode cX11_hasByte 17 = .ok (.i2l, 1) := by decide +kernel
theorem dX11_hasByte_18 : decode cX11_hasByte 18 = .ok (.invokestatic 44, 3) := by decide +kernel
theorem dX11_hasByte_21 : decode cX11_hasByte 21 = .ok (.ifCond .eq 7, 3) := by decide +kernel
theorem dX11_hasByte_24 : decode cX11_hasByte 24 = .ok (.iconst 1, 1) := by decide +kernel
theorem dX11_hasByte_25 : decode cX11_hasByte 25 = .ok (.goto 4, 3) := by decide +kernel
theorem dX11_hasByte_28 : decode cX11_hasByte 28 = .ok (.iconst 0, 1) := by decide +kernel
theorem dX11_hasByte_29 : decode cX11_hasByte 29 = .ok (.ireturn, 1) := by decide +kernel
theorem dX11_patch_0 : decode cX11_patch 0 = .ok (.aload_n 0, 1) := by decide +kernel
theorem dX11_patch_1 : decode cX11_patch 1 = .ok (.iload_n 1, 1) := by decide +kernel
theorem dX11_patch_2 : decode cX11_patch 2 = .ok (.invokestatic 48, 3) := by decide +kernel
theorem dX11_patch_5 : decode cX11_patch 5 = .ok (.ifCond .eq 14, 3) := by decide +kernel
theorem dX11_patch_8 : decode cX11_patch 8 = .ok (.iload_n 3, 1) := by decide +kernel
theorem dX11_patch_9 : decode cX11_patch 9 = .ok (.invokestatic 52, 3) := by decide +kernel
theorem dX11_patch_12 : decode cX11_patch 12 = .ok (.ifCond .eq 7, 3) := by decide +kernel
theorem dX11_patch_15 : decode cX11_patch 15 = .ok (.iconst 1, 1) := by decide +kernel
theorem dX11_patch_16 : decode cX11_patch 16 = .ok (.goto 4, 3) := by decide +kernel
theorem dX11_patch_19 : decode cX11_patch 19 = .ok (.iconst 0, 1) := by decide +kernel
theorem dX11_patch_20 : decode cX11_patch 20 = .ok (.aload_n 0, 1) := by decide +kernel
theorem dX11_patch_21 : decode cX11_patch 21 = .ok (.iload_n 1, 1) := by decide +kernel
theorem dX11_patch_22 : decode cX11_patch 22 = .ok (.iload_n 2, 1) := by decide +kernel
theorem dX11_patch_23 : decode cX11_patch 23 = .ok (.invokevirtual 69, 3) := by decide +kernel
theorem dX11_patch_26 : decode cX11_patch 26 = .ok (.invokevirtual 59, 3) := by decide +kernel
theorem dX11_patch_29 : decode cX11_patch 29 = .ok (.ifCond .ne 5, 3) := by decide +kernel
theorem dX11_patch_32 : decode cX11_patch 32 = .ok (.iconst 0, 1) := by decide +kernel
theorem dX11_patch_33 : decode cX11_patch 33 = .ok (.ireturn, 1) := by decide +kernel
theorem dX11_patch_34 : decode cX11_patch 34 = .ok (.aload_n 0, 1) := by decide +kernel
theorem dX11_patch_35 : decode cX11_patch 35 = .ok (.invokevirtual 63, 3) := by decide +kernel
theorem dX11_patch_38 : decode cX11_patch 38 = .ok (.aload_n 0, 1) := by decide +kernel
theorem dX11_patch_39 : decode cX11_patch 39 = .ok (.iload_n 1, 1) := by decide +kernel
theorem dX11_patch_40 : decode cX11_patch 40 = .ok (.iload_n 2, 1) := by decide +kernel
theorem dX11_patch_41 : decode cX11_patch 41 = .ok (.invokevirtual 73, 3) := by decide +kernel
theorem dX11_patch_44 : decode cX11_patch 44 = .ok (.istore 4, 2) := by decide +kernel
theorem dX11_patch_46 : decode cX11_patch 46 = .ok (.aload_n 0, 1) := by decide +kernel
theorem dX11_patch_47 : decode cX11_patch 47 = .ok (.getfield 7, 3) := by decide +kernel
theorem dX11_patch_50 : decode cX11_patch 50 = .ok (.iconst 2, 1) := by decide +kernel
theorem dX11_patch_51 : decode cX11_patch 51 = .ok (.bipush 64, 2) := by decide +kernel
theorem dX11_patch_53 : decode cX11_patch 53 = .ok (.iload_n 1, 1) := by decide +kernel
theorem dX11_patch_54 : decode cX11_patch 54 = .ok (.imul, 1) := by decide +kernel
theorem dX11_patch_55 : decode cX11_patch 55 = .ok (.iadd, 1) := by decide +kernel
theorem dX11_patch_56 : decode cX11_patch 56 = .ok (.iload_n 2, 1) := by decide +kernel
theorem dX11_patch_57 : decode cX11_patch 57 = .ok (.iadd, 1) := by decide +kernel
theorem dX11_patch_58 : decode cX11_patch 58 = .ok (.iload_n 3, 1) := by decide +kernel
theorem dX11_patch_59 : decode cX11_patch 59 = .ok (.iastore, 1) := by decide +kernel
theorem dX11_patch_60 : decode cX11_patch 60 = .ok (.aload_n 0, 1) := by decide +kernel
theorem dX11_patch_61 : decode cX11_patch 61 = .ok (.invokevirtual 66, 3) := by decide +kernel
theorem dX11_patch_64 : decode cX11_patch 64 = .ok (.iload 4, 2) := by decide +kernel
theorem dX11_patch_66 : decode cX11_patch 66 = .ok (.ireturn, 1) := by decide +kernel
theorem dX11_clear_0 : decode cX11_clear 0 = .ok (.aload_n 0, 1) := by decide +kernel
theorem dX11_clear_1 : decode cX11_clear 1 = .ok (.iload_n 1, 1) := by decide +kernel
theorem dX11_clear_2 : decode cX11_clear 2 = .ok (.invokestatic 48, 3) := by decide +kernel
theorem dX11_clear_5 : decode cX11_clear 5 = .ok (.iconst 1, 1) := by decide +kernel
theorem dX11_clear_6 : decode cX11_clear 6 = .ok (.invokevirtual 59, 3) := by decide +kernel
theorem dX11_clear_9 : decode cX11_clear 9 = .ok (.ifCond .ne 5, 3) := by decide +kernel
theorem dX11_clear_12 : decode cX11_clear 12 = .ok (.iconst 0, 1) := by decide +kernel
theorem dX11_clear_13 : decode cX11_clear 13 = .ok (.ireturn, 1) := by decide +kernel
theorem dX11_clear_14 : decode cX11_clear 14 = .ok (.aload_n 0, 1) := by decide +kernel
theorem dX11_clear_15 : decode cX11_clear 15 = .ok (.invokevirtual 63, 3) := by decide +kernel
theorem dX11_clear_18 : decode cX11_clear 18 = .ok (.aload_n 0, 1) := by decide +kernel
theorem dX11_clear_19 : decode cX11_clear 19 = .ok (.iload_n 1, 1) := by decide +kernel
theorem dX11_clear_20 : decode cX11_clear 20 = .ok (.invokevirtual 55, 3) := by decide +kernel
theorem dX11_clear_23 : decode cX11_clear 23 = .ok (.istore_n 2, 1) := by decide +kernel
theorem dX11_clear_24 : decode cX11_clear 24 = .ok (.aload_n 0, 1) := by decide +kernel
theorem dX11_clear_25 : decode cX11_clear 25 = .ok (.getfield 7, 3) := by decide +kernel
theorem dX11_clear_28 : decode cX11_clear 28 = .ok (.iconst 0, 1) := by decide +kernel
theorem dX11_clear_29 : decode cX11_clear 29 = .ok (.iload_n 1, 1) := by decide +kernel
theorem dX11_clear_30 : decode cX11_clear 30 = .ok (.iadd, 1) := by decide +kernel
theorem dX11_clear_31 : decode cX11_clear 31 = .ok (.iconst 0, 1) := by decide +kernel
theorem dX11_clear_32 : decode cX11_clear 32 = .ok (.iastore, 1) := by decide +kernel
theorem dX11_clear_33 : decode cX11_clear 33 = .ok (.aload_n 0, 1) := by decide +kernel
theorem dX11_clear_34 : decode cX11_clear 34 = .ok (.invokevirtual 66, 3) := by decide +kernel
theorem dX11_clear_37 : decode cX11_clear 37 = .ok (.iload_n 2, 1) := by decide +kernel
theorem dX11_clear_38 : decode cX11_clear 38 = .ok (.ireturn, 1) := by decide +kernel
theorem dX11_byteOf_0 : decode cX11_byteOf 0 = .ok (.aload_n 0, 1) := by decide +kernel
theorem dX11_byteOf_1 : decode cX11_byteOf 1 = .ok (.iload_n 1, 1) := by decide +kernel
theorem dX11_byteOf_2 : decode cX11_byteOf 2 = .ok (.invokestatic 48, 3) := by decide +kernel
theorem dX11_byteOf_5 : decode cX11_byteOf 5 = .ok (.aload_n 0, 1) := by decide +kernel
theorem dX11_byteOf_6 : decode cX11_byteOf 6 = .ok (.iload_n 1, 1) := by decide +kernel
theorem dX11_byteOf_7 : decode cX11_byteOf 7 = .ok (.iload_n 2, 1) := by decide +kernel
theorem dX11_byteOf_8 : decode cX11_byteOf 8 = .ok (.invokevirtual 69, 3) := by decide +kernel
theorem dX11_byteOf_11 : decode cX11_byteOf 11 = .ok (.invokevirtual 59, 3) := by decide +kernel
theorem dX11_byteOf_14 : decode cX11_byteOf 14 = .ok (.ifCond .eq 12, 3) := by decide +kernel
theorem dX11_byteOf_17 : decode cX11_byteOf 17 = .ok (.aload_n 0, 1) := by decide +kernel
theorem dX11_byteOf_18 : decode cX11_byteOf 18 = .ok (.iload_n 1, 1) := by decide +kernel
theorem dX11_byteOf_19 : decode cX11_byteOf 19 = .ok (.iload_n 2, 1) := by decide +kernel
theorem dX11_byteOf_20 : decode cX11_byteOf 20 = .ok (.invokevirtual 73, 3) := by decide +kernel
theorem dX11_byteOf_23 : decode cX11_byteOf 23 = .ok (.goto 4, 3) := by decide +kernel
theorem dX11_byteOf_26 : decode cX11_byteOf 26 = .ok (.iconst 0, 1) := by decide +kernel
theorem dX11_byteOf_27 : decode cX11_byteOf 27 = .ok (.ireturn, 1) := by decide +kernel
theorem dX11_of_0 : decode cX11_of 0 = .ok (.aload_n 0, 1) := by decide +kernel
theorem dX11_of_1 : decode cX11_of 1 = .ok (.getfield 7, 3) := by decide +kernel
theorem dX11_of_4 : decode cX11_of 4 = .ok (.sipush 133, 3) := by decide +kernel
theorem dX11_of_7 : decode cX11_of 7 = .ok (.iconst 4, 1) := by decide +kernel
theorem dX11_of_8 : decode cX11_of 8 = .ok (.iload_n 1, 1) := by decide +kernel
theorem dX11_of_9 : decode cX11_of 9 = .ok (.imul, 1) := by decide +kernel
theorem dX11_of_10 : decode cX11_of 10 = .ok (.iadd, 1) := by decide +kernel
theorem dX11_of_11 : decode cX11_of 11 = .ok (.iload_n 2, 1) := by decide +kernel
theorem dX11_of_12 : decode cX11_of 12 = .ok (.iadd, 1) := by decide +kernel
theorem dX11_of_13 : decode cX11_of 13 = .ok (.iaload, 1) := by decide +kernel
theorem dX11_of_14 : decode cX11_of 14 = .ok (.ireturn, 1) := by decide +kernel
theorem dX11_isCopy_0 : decode cX11_isCopy 0 = .ok (.aload_n 0, 1) := by decide +kernel
theorem dX11_isCopy_1 : decode cX11_isCopy 1 = .ok (.iload_n 1, 1) := by decide +kernel
theorem dX11_isCopy_2 : decode cX11_isCopy 2 = .ok (.iconst 0, 1) := by decide +kernel
theorem dX11_isCopy_3 : decode cX11_isCopy 3 = .ok (.invokevirtual 77, 3) := by decide +kernel
theorem dX11_isCopy_6 : decode cX11_isCopy 6 = .ok (.iconst 1, 1) := by decide +kernel
theorem dX11_isCopy_7 : decode cX11_isCopy 7 = .ok (.if_icmp .ne 7, 3) := by decide +kernel
theorem dX11_isCopy_10 : decode cX11_isCopy 10 = .ok (.iconst 1, 1) := by decide +kernel
theorem dX11_isCopy_11 : decode cX11_isCopy 11 = .ok (.goto 4, 3) := by decide +kernel
theorem dX11_isCopy_14 : decode cX11_isCopy 14 = .ok (.iconst 0, 1) := by decide +kernel
theorem dX11_isCopy_15 : decode cX11_isCopy 15 = .ok (.ireturn, 1) := by decide +kernel
theorem dX11_appends_0 : decode cX11_appends 0 = .ok (.sipush 133, 3) := by decide +kernel
theorem dX11_appends_3 : decode cX11_appends 3 = .ok (.iconst 4, 1) := by decide +kernel
theorem dX11_appends_4 : decode cX11_appends 4 = .ok (.aload_n 0, 1) := by decide +kernel
theorem dX11_appends_5 : decode cX11_appends 5 = .ok (.getfield 7, 3) := by decide +kernel
theorem dX11_appends_8 : decode cX11_appends 8 = .ok (.sipush 132, 3) := by decide +kernel
theorem dX11_appends_11 : decode cX11_appends 11 = .ok (.iaload, 1) := by decide +kernel
theorem dX11_appends_12 : decode cX11_appends 12 = .ok (.imul, 1) := by decide +kernel
theorem dX11_appends_13 : decode cX11_appends 13 = .ok (.iadd, 1) := by decide +kernel
theorem dX11_appends_14 : decode cX11_appends 14 = .ok (.istore 5, 2) := by decide +kernel
theorem dX11_appends_16 : decode cX11_appends 16 = .ok (.aload_n 0, 1) := by decide +kernel
theorem dX11_appends_17 : decode cX11_appends 17 = .ok (.getfield 7, 3) := by decide +kernel
theorem dX11_appends_20 : decode cX11_appends 20 = .ok (.iload 5, 2) := by decide +kernel
theorem dX11_appends_22 : decode cX11_appends 22 = .ok (.iload_n 1, 1) := by decide +kernel
theorem dX11_appends_23 : decode cX11_appends 23 = .ok (.iastore, 1) := by decide +kernel
theorem dX11_appends_24 : decode cX11_appends 24 = .ok (.aload_n 0, 1) := by decide +kernel
theorem dX11_appends_25 : decode cX11_appends 25 = .ok (.getfield 7, 3) := by decide +kernel
theorem dX11_appends_28 : decode cX11_appends 28 = .ok (.iload 5, 2) := by decide +kernel
theorem dX11_appends_30 : decode cX11_appends 30 = .ok (.iconst 1, 1) := by decide +kernel
theorem dX11_appends_31 : decode cX11_appends 31 = .ok (.iadd, 1) := by decide +kernel
theorem dX11_appends_32 : decode cX11_appends 32 = .ok (.iload_n 2, 1) := by decide +kernel
theorem dX11_appends_33 : decode cX11_appends 33 = .ok (.iastore, 1) := by decide +kernel
theorem dX11_appends_34 : decode cX11_appends 34 = .ok (.aload_n 0, 1) := by decide +kernel
theorem dX11_appends_35 : decode cX11_appends 35 = .ok (.getfield 7, 3) := by decide +kernel
theorem dX11_appends_38 : decode cX11_appends 38 = .ok (.iload 5, 2) := by decide +kernel
theorem dX11_appends_40 : decode cX11_appends 40 = .ok (.iconst 2, 1) := by decide +kernel
theorem dX11_appends_41 : decode cX11_appends 41 = .ok (.iadd, 1) := by decide +kernel
theorem dX11_appends_42 : decode cX11_appends 42 = .ok (.iload_n 3, 1) := by decide +kernel
theorem dX11_appends_43 : decode cX11_appends 43 = .ok (.iastore, 1) := by decide +kernel
theorem dX11_appends_44 : decode cX11_appends 44 = .ok (.aload_n 0, 1) := by decide +kernel
theorem dX11_appends_45 : decode cX11_appends 45 = .ok (.getfield 7, 3) := by decide +kernel
theorem dX11_appends_48 : decode cX11_appends 48 = .ok (.iload 5, 2) := by decide +kernel
theorem dX11_appends_50 : decode cX11_appends 50 = .ok (.iconst 3, 1) := by decide +kernel
theorem dX11_appends_51 : decode cX11_appends 51 = .ok (.iadd, 1) := by decide +kernel
theorem dX11_appends_52 : decode cX11_appends 52 = .ok (.iload 4, 2) := by decide +kernel
theorem dX11_appends_54 : decode cX11_appends 54 = .ok (.iastore, 1) := by decide +kernel
theorem dX11_appends_55 : decode cX11_appends 55 = .ok (.aload_n 0, 1) := by decide +kernel
theorem dX11_appends_56 : decode cX11_appends 56 = .ok (.getfield 7, 3) := by decide +kernel
theorem dX11_appends_59 : decode cX11_appends 59 = .ok (.sipush 132, 3) := by decide +kernel
theorem dX11_appends_62 : decode cX11_appends 62 = .ok (.dup2, 1) := by decide +kernel
theorem dX11_appends_63 : decode cX11_appends 63 = .ok (.iaload, 1) := by decide +kernel
theorem dX11_appends_64 : decode cX11_appends 64 = .ok (.iconst 1, 1) := by decide +kernel
theorem dX11_appends_65 : decode cX11_appends 65 = .ok (.iadd, 1) := by decide +kernel
theorem dX11_appends_66 : decode cX11_appends 66 = .ok (.iastore, 1) := by decide +kernel
theorem dX11_appends_67 : decode cX11_appends 67 = .ok (.return_, 1) := by decide +kernel
theorem dX11_matchLong_0 : decode cX11_matchLong 0 = .ok (.iconst 0, 1) := by decide +kernel
theorem dX11_matchLong_1 : decode cX11_matchLong 1 = .ok (.istore_n 3, 1) := by decide +kernel
theorem dX11_matchLong_2 : decode cX11_matchLong 2 = .ok (.iload_n 1, 1) := by decide +kernel
theorem dX11_matchLong_3 : decode cX11_matchLong 3 = .ok (.iload_n 3, 1) := by decide +kernel
theorem dX11_matchLong_4 : decode cX11_matchLong 4 = .ok (.iadd, 1) := by decide +kernel
theorem dX11_matchLong_5 : decode cX11_matchLong 5 = .ok (.aload_n 0, 1) := by decide +kernel
theorem dX11_matchLong_6 : decode cX11_matchLong 6 = .ok (.iconst 0, 1) := by decide +kernel
theorem dX11_matchLong_7 : decode cX11_matchLong 7 = .ok (.invokevirtual 55, 3) := by decide +kernel
theorem dX11_matchLong_10 : decode cX11_matchLong 10 = .ok (.if_icmp .ge 39, 3) := by decide +kernel
theorem dX11_matchLong_13 : decode cX11_matchLong 13 = .ok (.iload_n 2, 1) := by decide +kernel
theorem dX11_matchLong_14 : decode cX11_matchLong 14 = .ok (.iload_n 3, 1) := by decide +kernel
theorem dX11_matchLong_15 : decode cX11_matchLong 15 = .ok (.iadd, 1) := by decide +kernel
theorem dX11_matchLong_16 : decode cX11_matchLong 16 = .ok (.aload_n 0, 1) := by decide +kernel
theorem dX11_matchLong_17 : decode cX11_matchLong 17 = .ok (.iconst 1, 1) := by decide +kernel
theorem dX11_matchLong_18 : decode cX11_matchLong 18 = .ok (.invokevirtual 55, 3) := by decide +kernel
theorem dX11_matchLong_21 : decode cX11_matchLong 21 = .ok (.if_icmp .ge 28, 3) := by decide +kernel
theorem dX11_matchLong_24 : decode cX11_matchLong 24 = .ok (.aload_n 0, 1) := by decide +kernel
theorem dX11_matchLong_25 : decode cX11_matchLong 25 = .ok (.iconst 0, 1) := by decide +kernel
theorem dX11_matchLong_26 : decode cX11_matchLong 26 = .ok (.iload_n 1, 1) := by decide +kernel
theorem dX11_matchLong_27 : decode cX11_matchLong 27 = .ok (.iload_n 3, 1) := by decide +kernel
theorem dX11_matchLong_28 : decode cX11_matchLong 28 = .ok (.iadd, 1) := by decide +kernel
theorem dX11_matchLong_29 : decode cX11_matchLong 29 = .ok (.invokevirtual 73, 3) := by decide +kernel
theorem dX11_matchLong_32 : decode cX11_matchLong 32 = .ok (.aload_n 0, 1) := by decide +kernel
theorem dX11_matchLong_33 : decode cX11_matchLong 33 = .ok (.iconst 1, 1) := by decide +kernel
theorem dX11_matchLong_34 : decode cX11_matchLong 34 = .ok (.iload_n 2, 1) := by decide +kernel
theorem dX11_matchLong_35 : decode cX11_matchLong 35 = .ok (.iload_n 3, 1) := by decide +kernel
theorem dX11_matchLong_36 : decode cX11_matchLong 36 = .ok (.iadd, 1) := by decide +kernel
theorem dX11_matchLong_37 : decode cX11_matchLong 37 = .ok (.invokevirtual 73, 3) := by decide +kernel
theorem dX11_matchLong_40 : decode cX11_matchLong 40 = .ok (.if_icmp .ne 9, 3) := by decide +kernel
theorem dX11_matchLong_43 : decode cX11_matchLong 43 = .ok (.iinc 3 1, 3) := by decide +kernel
theorem dX11_matchLong_46 : decode cX11_matchLong 46 = .ok (.goto (-44), 3) := by decide +kernel
theorem dX11_matchLong_49 : decode cX11_matchLong 49 = .ok (.iload_n 3, 1) := by decide +kernel
theorem dX11_matchLong_50 : decode cX11_matchLong 50 = .ok (.ireturn, 1) := by decide +kernel
theorem dX11_make_0 : decode cX11_make 0 = .ok (.aload_n 0, 1) := by decide +kernel
theorem dX11_make_1 : decode cX11_make 1 = .ok (.iconst 0, 1) := by decide +kernel
theorem dX11_make_2 : decode cX11_make 2 = .ok (.putfield 35, 3) := by decide +kernel
theorem dX11_make_5 : decode cX11_make 5 = .ok (.aload_n 0, 1) := by decide +kernel
theorem dX11_make_6 : decode cX11_make 6 = .ok (.invokevirtual 63, 3) := by decide +kernel
theorem dX11_make_9 : decode cX11_make 9 = .ok (.aload_n 0, 1) := by decide +kernel
theorem dX11_make_10 : decode cX11_make 10 = .ok (.invokevirtual 66, 3) := by decide +kernel
theorem dX11_make_13 : decode cX11_make 13 = .ok (.aload_n 0, 1) := by decide +kernel
theorem dX11_make_14 : decode cX11_make 14 = .ok (.getfield 7, 3) := by decide +kernel
theorem dX11_make_17 : decode cX11_make 17 = .ok (.sipush 132, 3) := by decide +kernel
theorem dX11_make_20 : decode cX11_make 20 = .ok (.iconst 0, 1) := by decide +kernel
theorem dX11_make_21 : decode cX11_make 21 = .ok (.iastore, 1) := by decide +kernel
theorem dX11_make_22 : decode cX11_make 22 = .ok (.aload_n 0, 1) := by decide +kernel
theorem dX11_make_23 : decode cX11_make 23 = .ok (.getfield 7, 3) := by decide +kernel
theorem dX11_make_26 : decode cX11_make 26 = .ok (.sipush 130, 3) := by decide +kernel
theorem dX11_make_29 : decode cX11_make 29 = .ok (.aload_n 0, 1) := by decide +kernel
theorem dX11_make_30 : decode cX11_make 30 = .ok (.iconst 0, 1) := by decide +kernel
theorem dX11_make_31 : decode cX11_make 31 = .ok (.invokevirtual 55, 3) := by decide +kernel
theorem dX11_make_34 : decode cX11_make 34 = .ok (.iastore, 1) := by decide +kernel
theorem dX11_make_35 : decode cX11_make 35 = .ok (.aload_n 0, 1) := by decide +kernel
theorem dX11_make_36 : decode cX11_make 36 = .ok (.getfield 7, 3) := by decide +kernel
theorem dX11_make_39 : decode cX11_make 39 = .ok (.sipush 131, 3) := by decide +kernel
theorem dX11_make_42 : decode cX11_make 42 = .ok (.aload_n 0, 1) := by decide +kernel
theorem dX11_make_43 : decode cX11_make 43 = .ok (.iconst 1, 1) := by decide +kernel
theorem dX11_make_44 : decode cX11_make 44 = .ok (.invokevirtual 55, 3) := by decide +kernel
theorem dX11_make_47 : decode cX11_make 47 = .ok (.iastore, 1) := by decide +kernel
theorem dX11_make_48 : decode cX11_make 48 = .ok (.iconst 0, 1) := by decide +kernel
theorem dX11_make_49 : decode cX11_make 49 = .ok (.istore_n 1, 1) := by decide +kernel
theorem dX11_make_50 : decode cX11_make 50 = .ok (.iconst 0, 1) := by decide +kernel
theorem dX11_make_51 : decode cX11_make 51 = .ok (.istore_n 2, 1) := by decide +kernel
theorem dX11_make_52 : decode cX11_make 52 = .ok (.iconst 0, 1) := by decide +kernel
theorem dX11_make_53 : decode cX11_make 53 = .ok (.istore_n 3, 1) := by decide +kernel
theorem dX11_make_54 : decode cX11_make 54 = .ok (.iload_n 3, 1) := by decide +kernel
theorem dX11_make_55 : decode cX11_make 55 = .ok (.aload_n 0, 1) := by decide +kernel
theorem dX11_make_56 : decode cX11_make 56 = .ok (.iconst 1, 1) := by decide +kernel
theorem dX11_make_57 : decode cX11_make 57 = .ok (.invokevirtual 55, 3) := by decide +kernel
theorem dX11_make_60 : decode cX11_make 60 = .ok (.if_icmp .ge 128, 3) := by decide +kernel
theorem dX11_make_63 : decode cX11_make 63 = .ok (.iconst 0, 1) := by decide +kernel
theorem dX11_make_64 : decode cX11_make 64 = .ok (.istore 4, 2) := by decide +kernel
theorem dX11_make_66 : decode cX11_make 66 = .ok (.iconst 1, 1) := by decide +kernel
theorem dX11_make_67 : decode cX11_make 67 = .ok (.istore 5, 2) := by decide +kernel
theorem dX11_make_69 : decode cX11_make 69 = .ok (.iload 5, 2) := by decide +kernel
theorem dX11_make_71 : decode cX11_make 71 = .ok (.aload_n 0, 1) := by decide +kernel
theorem dX11_make_72 : decode cX11_make 72 = .ok (.iconst 0, 1) := by decide +kernel
theorem dX11_make_73 : decode cX11_make 73 = .ok (.invokevirtual 55, 3) := by decide +kernel
theorem dX11_make_76 : decode cX11_make 76 = .ok (.if_icmp .ge 35, 3) := by decide +kernel
theorem dX11_make_79 : decode cX11_make 79 = .ok (.aload_n 0, 1) := by decide +kernel
theorem dX11_make_80 : decode cX11_make 80 = .ok (.iload 5, 2) := by decide +kernel
theorem dX11_make_82 : decode cX11_make 82 = .ok (.iload_n 3, 1) := by decide +kernel
theorem dX11_make_83 : decode cX11_make 83 = .ok (.invokevirtual 80, 3) := by decide +kernel
theorem dX11_make_86 : decode cX11_make 86 = .ok (.aload_n 0, 1) := by decide +kernel
theorem dX11_make_87 : decode cX11_make 87 = .ok (.iload 4, 2) := by decide +kernel
theorem dX11_make_89 : decode cX11_make 89 = .ok (.iload_n 3, 1) := by decide +kernel
theorem dX11_make_90 : decode cX11_make 90 = .ok (.invokevirtual 80, 3) := by decide +kernel
theorem dX11_make_93 : decode cX11_make 93 = .ok (.if_icmp .le 8, 3) := by decide +kernel
theorem dX11_make_96 : decode cX11_make 96 = .ok (.iload 5, 2) := by decide +kernel
theorem dX11_make_98 : decode cX11_make 98 = .ok (.goto 5, 3) := by decide +kernel
theorem dX11_make_101 : decode cX11_make 101 = .ok (.iload 4, 2) := by decide +kernel
theorem dX11_make_103 : decode cX11_make 103 = .ok (.istore 4, 2) := by decide +kernel
theorem dX11_make_105 : decode cX11_make 105 = .ok (.iinc 5 1, 3) := by decide +kernel
theorem dX11_make_108 : decode cX11_make 108 = .ok (.goto (-39), 3) := by decide +kernel
theorem dX11_make_111 : decode cX11_make 111 = .ok (.aload_n 0, 1) := by decide +kernel
theorem dX11_make_112 : decode cX11_make 112 = .ok (.iload 4, 2) := by decide +kernel
theorem dX11_make_114 : decode cX11_make 114 = .ok (.iload_n 3, 1) := by decide +kernel
theorem dX11_make_115 : decode cX11_make 115 = .ok (.invokevirtual 80, 3) := by decide +kernel
theorem dX11_make_118 : decode cX11_make 118 = .ok (.istore 5, 2) := by decide +kernel
theorem dX11_make_120 : decode cX11_make 120 = .ok (.iload 5, 2) := by decide +kernel
theorem dX11_make_122 : decode cX11_make 122 = .ok (.iconst 4, 1) := by decide +kernel
theorem dX11_make_123 : decode cX11_make 123 = .ok (.if_icmp .lt 40, 3) := by decide +kernel
theorem dX11_make_126 : decode cX11_make 126 = .ok (.iload_n 1, 1) := by decide +kernel
theorem dX11_make_127 : decode cX11_make 127 = .ok (.bipush 12, 2) := by decide +kernel
theorem dX11_make_129 : decode cX11_make 129 = .ok (.if_icmp .ge 34, 3) := by decide +kernel
theorem dX11_make_132 : decode cX11_make 132 = .ok (.aload_n 0, 1) := by decide +kernel
theorem dX11_make_133 : decode cX11_make 133 = .ok (.iload_n 3, 1) := by decide +kernel
theorem dX11_make_134 : decode cX11_make 134 = .ok (.iload_n 2, 1) := by decide +kernel
theorem dX11_make_135 : decode cX11_make 135 = .ok (.isub, 1) := by decide +kernel
theorem dX11_make_136 : decode cX11_make 136 = .ok (.iload_n 2, 1) := by decide +kernel
theorem dX11_make_137 : decode cX11_make 137 = .ok (.invokevirtual 83, 3) := by decide +kernel
theorem dX11_make_140 : decode cX11_make 140 = .ok (.iconst 0, 1) := by decide +kernel
theorem dX11_make_141 : decode cX11_make 141 = .ok (.istore_n 2, 1) := by decide +kernel
theorem dX11_make_142 : decode cX11_make 142 = .ok (.aload_n 0, 1) := by decide +kernel
theorem dX11_make_143 : decode cX11_make 143 = .ok (.iconst 1, 1) := by decide +kernel
theorem dX11_make_144 : decode cX11_make 144 = .ok (.iload 4, 2) := by decide +kernel
theorem dX11_make_146 : decode cX11_make 146 = .ok (.iload_n 3, 1) := by decide +kernel
theorem dX11_make_147 : decode cX11_make 147 = .ok (.iload 5, 2) := by decide +kernel
theorem dX11_make_149 : decode cX11_make 149 = .ok (.invokevirtual 87, 3) := by decide +kernel
theorem dX11_make_152 : decode cX11_make 152 = .ok (.iinc 1 1, 3) := by decide +kernel
theorem dX11_make_155 : decode cX11_make 155 = .ok (.iload_n 3, 1) := by decide +kernel
theorem dX11_make_156 : decode cX11_make 156 = .ok (.iload 5, 2) := by decide +kernel
theorem dX11_make_158 : decode cX11_make 158 = .ok (.iadd, 1) := by decide +kernel
theorem dX11_make_159 : decode cX11_make 159 = .ok (.istore_n 3, 1) := by decide +kernel
theorem dX11_make_160 : decode cX11_make 160 = .ok (.goto 25, 3) := by decide +kernel
theorem dX11_make_163 : decode cX11_make 163 = .ok (.aload_n 0, 1) := by decide +kernel
theorem dX11_make_164 : decode cX11_make 164 = .ok (.getfield 7, 3) := by decide +kernel
theorem dX11_make_167 : decode cX11_make 167 = .ok (.sipush 253, 3) := by decide +kernel
theorem dX11_make_170 : decode cX11_make 170 = .ok (.iload_n 3, 1) := by decide +kernel
theorem dX11_make_171 : decode cX11_make 171 = .ok (.iadd, 1) := by decide +kernel
theorem dX11_make_172 : decode cX11_make 172 = .ok (.aload_n 0, 1) := by decide +kernel
theorem dX11_make_173 : decode cX11_make 173 = .ok (.iconst 1, 1) := by decide +kernel
theorem dX11_make_174 : decode cX11_make 174 = .ok (.iload_n 3, 1) := by decide +kernel
theorem dX11_make_175 : decode cX11_make 175 = .ok (.invokevirtual 73, 3) := by decide +kernel
theorem dX11_make_178 : decode cX11_make 178 = .ok (.iastore, 1) := by decide +kernel
theorem dX11_make_179 : decode cX11_make 179 = .ok (.iinc 2 1, 3) := by decide +kernel
theorem dX11_make_182 : decode cX11_make 182 = .ok (.iinc 3 1, 3) := by decide +kernel
theorem dX11_make_185 : decode cX11_make 185 = .ok (.goto (-131), 3) := by decide +kernel
theorem dX11_make_188 : decode cX11_make 188 = .ok (.aload_n 0, 1) := by decide +kernel
theorem dX11_make_189 : decode cX11_make 189 = .ok (.iload_n 3, 1) := by decide +kernel
theorem dX11_make_190 : decode cX11_make 190 = .ok (.iload_n 2, 1) := by decide +kernel
theorem dX11_make_191 : decode cX11_make 191 = .ok (.isub, 1) := by decide +kernel
theorem dX11_make_192 : decode cX11_make 192 = .ok (.iload_n 2, 1) := by decide +kernel
theorem dX11_make_193 : decode cX11_make 193 = .ok (.invokevirtual 83, 3) := by decide +kernel
theorem dX11_make_196 : decode cX11_make 196 = .ok (.aload_n 0, 1) := by decide +kernel
theorem dX11_make_197 : decode cX11_make 197 = .ok (.getfield 7, 3) := by decide +kernel
theorem dX11_make_200 : decode cX11_make 200 = .ok (.sipush 132, 3) := by decide +kernel
theorem dX11_make_203 : decode cX11_make 203 = .ok (.iaload, 1) := by decide +kernel
theorem dX11_make_204 : decode cX11_make 204 = .ok (.ireturn, 1) := by decide +kernel
theorem dX11_adds_0 : decode cX11_adds 0 = .ok (.iload_n 2, 1) := by decide +kernel
theorem dX11_adds_1 : decode cX11_adds 1 = .ok (.ifCond .le 11, 3) := by decide +kernel
theorem dX11_adds_4 : decode cX11_adds 4 = .ok (.aload_n 0, 1) := by decide +kernel
theorem dX11_adds_5 : decode cX11_adds 5 = .ok (.iconst 2, 1) := by decide +kernel
theorem dX11_adds_6 : decode cX11_adds 6 = .ok (.iconst (-1), 1) := by decide +kernel
theorem dX11_adds_7 : decode cX11_adds 7 = .ok (.iload_n 1, 1) := by decide +kernel
theorem dX11_adds_8 : decode cX11_adds 8 = .ok (.iload_n 2, 1) := by decide +kernel
theorem dX11_adds_9 : decode cX11_adds 9 = .ok (.invokevirtual 87, 3) := by decide +kernel
theorem dX11_adds_12 : decode cX11_adds 12 = .ok (.return_, 1) := by decide +kernel
theorem dX11_commands_0 : decode cX11_commands 0 = .ok (.aload_n 0, 1) := by decide +kernel
theorem dX11_commands_1 : decode cX11_commands 1 = .ok (.iconst 0, 1) := by decide +kernel
theorem dX11_commands_2 : decode cX11_commands 2 = .ok (.putfield 35, 3) := by decide +kernel
theorem dX11_commands_5 : decode cX11_commands 5 = .ok (.aload_n 0, 1) := by decide +kernel
theorem dX11_commands_6 : decode cX11_commands 6 = .ok (.getfield 7, 3) := by decide +kernel
theorem dX11_commands_9 : decode cX11_commands 9 = .ok (.sipush 132, 3) := by decide +kernel
theorem dX11_commands_12 : decode cX11_commands 12 = .ok (.iaload, 1) := by decide +kernel
theorem dX11_commands_13 : decode cX11_commands 13 = .ok (.ireturn, 1) := by decide +kernel
theorem dX11_isCommand_0 : decode cX11_isCommand 0 = .ok (.iload_n 1, 1) := by decide +kernel
theorem dX11_isCommand_1 : decode cX11_isCommand 1 = .ok (.i2l, 1) := by decide +kernel
theorem dX11_isCommand_2 : decode cX11_isCommand 2 = .ok (.lconst 0, 1) := by decide +kernel
theorem dX11_isCommand_3 : decode cX11_isCommand 3 = .ok (.aload_n 0, 1) := by decide +kernel
theorem dX11_isCommand_4 : decode cX11_isCommand 4 = .ok (.getfield 7, 3) := by decide +kernel
theorem dX11_isCommand_7 : decode cX11_isCommand 7 = .ok (.sipush 132, 3) := by decide +kernel
theorem dX11_isCommand_10 : decode cX11_isCommand 10 = .ok (.iaload, 1) := by decide +kernel
theorem dX11_isCommand_11 : decode cX11_isCommand 11 = .ok (.iconst 1, 1) := by decide +kernel
theorem dX11_isCommand_12 : decode cX11_isCommand 12 = .ok (.isub, 1) := by decide +kernel
theorem dX11_isCommand_13 : decode cX11_isCommand 13 = .ok (.i2l, 1) := by decide +kernel
theorem dX11_isCommand_14 : decode cX11_isCommand 14 = .ok (.invokestatic 44, 3) := by decide +kernel
theorem dX11_isCommand_17 : decode cX11_isCommand 17 = .ok (.ireturn, 1) := by decide +kernel
theorem dX11_command_0 : decode cX11_command 0 = .ok (.aload_n 0, 1) := by decide +kernel
theorem dX11_command_1 : decode cX11_command 1 = .ok (.aload_n 0, 1) := by decide +kernel
theorem dX11_command_2 : decode cX11_command 2 = .ok (.iload_n 1, 1) := by decide +kernel
theorem dX11_command_3 : decode cX11_command 3 = .ok (.invokevirtual 91, 3) := by decide +kernel
theorem dX11_command_6 : decode cX11_command 6 = .ok (.iload_n 2, 1) := by decide +kernel
theorem dX11_command_7 : decode cX11_command 7 = .ok (.i2l, 1) := by decide +kernel
theorem dX11_command_8 : decode cX11_command 8 = .ok (.lconst 0, 1) := by decide +kernel
theorem dX11_command_9 : decode cX11_command 9 = .ok (.ldc2_w 94, 3) := by decide +kernel
theorem dX11_command_12 : decode cX11_command 12 = .ok (.invokestatic 44, 3) := by decide +kernel
theorem dX11_command_15 : decode cX11_command 15 = .ok (.invokevirtual 59, 3) := by decide +kernel
theorem dX11_command_18 : decode cX11_command 18 = .ok (.ifCond .eq 12, 3) := by decide +kernel
theorem dX11_command_21 : decode cX11_command 21 = .ok (.aload_n 0, 1) := by decide +kernel
theorem dX11_command_22 : decode cX11_command 22 = .ok (.iload_n 1, 1) := by decide +kernel
theorem dX11_command_23 : decode cX11_command 23 = .ok (.iload_n 2, 1) := by decide +kernel
theorem dX11_command_24 : decode cX11_command 24 = .ok (.invokevirtual 77, 3) := by decide +kernel
theorem dX11_command_27 : decode cX11_command 27 = .ok (.goto 4, 3) := by decide +kernel
theorem dX11_command_30 : decode cX11_command 30 = .ok (.iconst 0, 1) := by decide +kernel
theorem dX11_command_31 : decode cX11_command 31 = .ok (.ireturn, 1) := by decide +kernel
theorem dX11_precedes_0 : decode cX11_precedes 0 = .ok (.iload_n 1, 1) := by decide +kernel
theorem dX11_precedes_1 : decode cX11_precedes 1 = .ok (.iload_n 2, 1) := by decide +kernel
theorem dX11_precedes_2 : decode cX11_precedes 2 = .ok (.if_icmp .eq 67, 3) := by decide +kernel
theorem dX11_precedes_5 : decode cX11_precedes 5 = .ok (.aload_n 0, 1) := by decide +kernel
theorem dX11_precedes_6 : decode cX11_precedes 6 = .ok (.iload_n 1, 1) := by decide +kernel
theorem dX11_precedes_7 : decode cX11_precedes 7 = .ok (.invokevirtual 96, 3) := by decide +kernel
theorem dX11_precedes_10 : decode cX11_precedes 10 = .ok (.ifCond .eq 59, 3) := by decide +kernel
theorem dX11_precedes_13 : decode cX11_precedes 13 = .ok (.aload_n 0, 1) := by decide +kernel
theorem dX11_precedes_14 : decode cX11_precedes 14 = .ok (.iload_n 2, 1) := by decide +kernel
theorem dX11_precedes_15 : decode cX11_precedes 15 = .ok (.invokevirtual 96, 3) := by decide +kernel
theorem dX11_precedes_18 : decode cX11_precedes 18 = .ok (.ifCond .eq 51, 3) := by decide +kernel
theorem dX11_precedes_21 : decode cX11_precedes 21 = .ok (.aload_n 0, 1) := by decide +kernel
theorem dX11_precedes_22 : decode cX11_precedes 22 = .ok (.iload_n 1, 1) := by decide +kernel
theorem dX11_precedes_23 : decode cX11_precedes 23 = .ok (.iconst 1, 1) := by decide +kernel
theorem dX11_precedes_24 : decode cX11_precedes 24 = .ok (.invokevirtual 77, 3) := by decide +kernel
theorem dX11_precedes_27 : decode cX11_precedes 27 = .ok (.aload_n 0, 1) := by decide +kernel
theorem dX11_precedes_28 : decode cX11_precedes 28 = .ok (.iload_n 2, 1) := by decide +kernel
theorem dX11_precedes_29 : decode cX11_precedes 29 = .ok (.iconst 2, 1) := by decide +kernel
theorem dX11_precedes_30 : decode cX11_precedes 30 = .ok (.invokevirtual 77, 3) := by decide +kernel
theorem dX11_precedes_33 : decode cX11_precedes 33 = .ok (.aload_n 0, 1) := by decide +kernel
theorem dX11_precedes_34 : decode cX11_precedes 34 = .ok (.iload_n 2, 1) := by decide +kernel
theorem dX11_precedes_35 : decode cX11_precedes 35 = .ok (.iconst 3, 1) := by decide +kernel
theorem dX11_precedes_36 : decode cX11_precedes 36 = .ok (.invokevirtual 77, 3) := by decide +kernel
theorem dX11_precedes_39 : decode cX11_precedes 39 = .ok (.iadd, 1) := by decide +kernel
theorem dX11_precedes_40 : decode cX11_precedes 40 = .ok (.if_icmp .ge 29, 3) := by decide +kernel
theorem dX11_precedes_43 : decode cX11_precedes 43 = .ok (.aload_n 0, 1) := by decide +kernel
theorem dX11_precedes_44 : decode cX11_precedes 44 = .ok (.iload_n 2, 1) := by decide +kernel
theorem dX11_precedes_45 : decode cX11_precedes 45 = .ok (.iconst 2, 1) := by decide +kernel
theorem dX11_precedes_46 : decode cX11_precedes 46 = .ok (.invokevirtual 77, 3) := by decide +kernel
theorem dX11_precedes_49 : decode cX11_precedes 49 = .ok (.aload_n 0, 1) := by decide +kernel
theorem dX11_precedes_50 : decode cX11_precedes 50 = .ok (.iload_n 1, 1) := by decide +kernel
theorem dX11_precedes_51 : decode cX11_precedes 51 = .ok (.iconst 1, 1) := by decide +kernel
theorem dX11_precedes_52 : decode cX11_precedes 52 = .ok (.invokevirtual 77, 3) := by decide +kernel
theorem dX11_precedes_55 : decode cX11_precedes 55 = .ok (.aload_n 0, 1) := by decide +kernel
theorem dX11_precedes_56 : decode cX11_precedes 56 = .ok (.iload_n 1, 1) := by decide +kernel
theorem dX11_precedes_57 : decode cX11_precedes 57 = .ok (.iconst 3, 1) := by decide +kernel
theorem dX11_precedes_58 : decode cX11_precedes 58 = .ok (.invokevirtual 77, 3) := by decide +kernel
theorem dX11_precedes_61 : decode cX11_precedes 61 = .ok (.iadd, 1) := by decide +kernel
theorem dX11_precedes_62 : decode cX11_precedes 62 = .ok (.if_icmp .ge 7, 3) := by decide +kernel
theorem dX11_precedes_65 : decode cX11_precedes 65 = .ok (.iconst 1, 1) := by decide +kernel
theorem dX11_precedes_66 : decode cX11_precedes 66 = .ok (.goto 4, 3) := by decide +kernel
theorem dX11_precedes_69 : decode cX11_precedes 69 = .ok (.iconst 0, 1) := by decide +kernel
theorem dX11_precedes_70 : decode cX11_precedes 70 = .ok (.ireturn, 1) := by decide +kernel
theorem dX11_mustPrecede_0 : decode cX11_mustPrecede 0 = .ok (.aload_n 0, 1) := by decide +kernel
theorem dX11_mustPrecede_1 : decode cX11_mustPrecede 1 = .ok (.aload_n 0, 1) := by decide +kernel
theorem dX11_mustPrecede_2 : decode cX11_mustPrecede 2 = .ok (.iload_n 1, 1) := by decide +kernel
theorem dX11_mustPrecede_3 : decode cX11_mustPrecede 3 = .ok (.invokevirtual 91, 3) := by decide +kernel
theorem dX11_mustPrecede_6 : decode cX11_mustPrecede 6 = .ok (.ifCond .eq 15, 3) := by decide +kernel
theorem dX11_mustPrecede_9 : decode cX11_mustPrecede 9 = .ok (.aload_n 0, 1) := by decide +kernel
theorem dX11_mustPrecede_10 : decode cX11_mustPrecede 10 = .ok (.iload_n 2, 1) := by decide +kernel
theorem dX11_mustPrecede_11 : decode cX11_mustPrecede 11 = .ok (.invokevirtual 91, 3) := by decide +kernel
theorem dX11_mustPrecede_14 : decode cX11_mustPrecede 14 = .ok (.ifCond .eq 7, 3) := by decide +kernel
theorem dX11_mustPrecede_17 : decode cX11_mustPrecede 17 = .ok (.iconst 1, 1) := by decide +kernel
theorem dX11_mustPrecede_18 : decode cX11_mustPrecede 18 = .ok (.goto 4, 3) := by decide +kernel
theorem dX11_mustPrecede_21 : decode cX11_mustPrecede 21 = .ok (.iconst 0, 1) := by decide +kernel
theorem dX11_mustPrecede_22 : decode cX11_mustPrecede 22 = .ok (.iconst 1, 1) := by decide +kernel
theorem dX11_mustPrecede_23 : decode cX11_mustPrecede 23 = .ok (.invokevirtual 59, 3) := by decide +kernel
theorem dX11_mustPrecede_26 : decode cX11_mustPrecede 26 = .ok (.ifCond .eq 16, 3) := by decide +kernel
