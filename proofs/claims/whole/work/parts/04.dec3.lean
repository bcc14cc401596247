theorem dX3_init_0 : decode cX3_init 0 = .ok (.aload_n 0, 1) := by decide +kernel
theorem dX3_init_1 : decode cX3_init 1 = .ok (.invokespecial 1, 3) := by decide +kernel
theorem dX3_init_4 : decode cX3_init 4 = .ok (.aload_n 0, 1) := by decide +kernel
theorem dX3_init_5 : decode cX3_init 5 = .ok (.new 7, 3) := by decide +kernel
theorem dX3_init_8 : decode cX3_init 8 = .ok (.dup, 1) := by decide +kernel
theorem dX3_init_9 : decode cX3_init 9 = .ok (.invokespecial 9, 3) := by decide +kernel
theorem dX3_init_12 : decode cX3_init 12 = .ok (.putfield 10, 3) := by decide +kernel
theorem dX3_init_15 : decode cX3_init 15 = .ok (.aload_n 0, 1) := by decide +kernel
theorem dX3_init_16 : decode cX3_init 16 = .ok (.aload_n 0, 1) := by decide +kernel
theorem dX3_init_17 : decode cX3_init 17 = .ok (.getfield 10, 3) := by decide +kernel
theorem dX3_init_20 : decode cX3_init 20 = .ok (.getfield 16, 3) := by decide +kernel
theorem dX3_init_23 : decode cX3_init 23 = .ok (.putfield 20, 3) := by decide +kernel
theorem dX3_init_26 : decode cX3_init 26 = .ok (.aload_n 0, 1) := by decide +kernel
theorem dX3_init_27 : decode cX3_init 27 = .ok (.new 21, 3) := by decide +kernel
theorem dX3_init_30 : decode cX3_init 30 = .ok (.dup, 1) := by decide +kernel
theorem dX3_init_31 : decode cX3_init 31 = .ok (.invokespecial 23, 3) := by decide +kernel
theorem dX3_init_34 : decode cX3_init 34 = .ok (.putfield 24, 3) := by decide +kernel
theorem dX3_init_37 : decode cX3_init 37 = .ok (.aload_n 0, 1) := by decide +kernel
theorem dX3_init_38 : decode cX3_init 38 = .ok (.iconst 0, 1) := by decide +kernel
theorem dX3_init_39 : decode cX3_init 39 = .ok (.putfield 28, 3) := by decide +kernel
theorem dX3_init_42 : decode cX3_init 42 = .ok (.return_, 1) := by decide +kernel
theorem dX3_input_0 : decode cX3_input 0 = .ok (.iload_n 1, 1) := by decide +kernel
theorem dX3_input_1 : decode cX3_input 1 = .ok (.invokestatic 32, 3) := by decide +kernel
theorem dX3_input_4 : decode cX3_input 4 = .ok (.aload_n 0, 1) := by decide +kernel
theorem dX3_input_5 : decode cX3_input 5 = .ok (.iload_n 1, 1) := by decide +kernel
theorem dX3_input_6 : decode cX3_input 6 = .ok (.invokevirtual 36, 3) := by decide +kernel
theorem dX3_input_9 : decode cX3_input 9 = .ok (.iload_n 1, 1) := by decide +kernel
theorem dX3_input_10 : decode cX3_input 10 = .ok (.newarray .int, 2) := by decide +kernel
theorem dX3_input_12 : decode cX3_input 12 = .ok (.astore_n 2, 1) := by decide +kernel
theorem dX3_input_13 : decode cX3_input 13 = .ok (.iconst 0, 1) := by decide +kernel
theorem dX3_input_14 : decode cX3_input 14 = .ok (.istore_n 3, 1) := by decide +kernel
theorem dX3_input_15 : decode cX3_input 15 = .ok (.iload_n 3, 1) := by decide +kernel
theorem dX3_input_16 : decode cX3_input 16 = .ok (.iload_n 1, 1) := by decide +kernel
theorem dX3_input_17 : decode cX3_input 17 = .ok (.if_icmp .ge 19, 3) := by decide +kernel
theorem dX3_input_20 : decode cX3_input 20 = .ok (.aload_n 2, 1) := by decide +kernel
theorem dX3_input_21 : decode cX3_input 21 = .ok (.iload_n 3, 1) := by decide +kernel
theorem dX3_input_22 : decode cX3_input 22 = .ok (.aload_n 0, 1) := by decide +kernel
theorem dX3_input_23 : decode cX3_input 23 = .ok (.getfield 20, 3) := by decide +kernel
theorem dX3_input_26 : decode cX3_input 26 = .ok (.invokevirtual 39, 3) := by decide +kernel
theorem dX3_input_29 : decode cX3_input 29 = .ok (.iastore, 1) := by decide +kernel
theorem dX3_input_30 : decode cX3_input 30 = .ok (.iinc 3 1, 3) := by decide +kernel
theorem dX3_input_33 : decode cX3_input 33 = .ok (.goto (-18), 3) := by decide +kernel
theorem dX3_input_36 : decode cX3_input 36 = .ok (.aload_n 0, 1) := by decide +kernel
theorem dX3_input_37 : decode cX3_input 37 = .ok (.new 45, 3) := by decide +kernel
theorem dX3_input_40 : decode cX3_input 40 = .ok (.dup, 1) := by decide +kernel
theorem dX3_input_41 : decode cX3_input 41 = .ok (.aload_n 2, 1) := by decide +kernel
theorem dX3_input_42 : decode cX3_input 42 = .ok (.iconst 1, 1) := by decide +kernel
theorem dX3_input_43 : decode cX3_input 43 = .ok (.invokespecial 47, 3) := by decide +kernel
theorem dX3_input_46 : decode cX3_input 46 = .ok (.iload_n 1, 1) := by decide +kernel
theorem dX3_input_47 : decode cX3_input 47 = .ok (.invokevirtual 50, 3) := by decide +kernel
theorem dX3_input_50 : decode cX3_input 50 = .ok (.ireturn, 1) := by decide +kernel
theorem dX3_constant_0 : decode cX3_constant 0 = .ok (.iload_n 1, 1) := by decide +kernel
theorem dX3_constant_1 : decode cX3_constant 1 = .ok (.invokestatic 32, 3) := by decide +kernel
theorem dX3_constant_4 : decode cX3_constant 4 = .ok (.aload_n 0, 1) := by decide +kernel
theorem dX3_constant_5 : decode cX3_constant 5 = .ok (.iload_n 1, 1) := by decide +kernel
theorem dX3_constant_6 : decode cX3_constant 6 = .ok (.invokevirtual 36, 3) := by decide +kernel
theorem dX3_constant_9 : decode cX3_constant 9 = .ok (.iload_n 1, 1) := by decide +kernel
theorem dX3_constant_10 : decode cX3_constant 10 = .ok (.newarray .int, 2) := by decide +kernel
theorem dX3_constant_12 : decode cX3_constant 12 = .ok (.astore 4, 2) := by decide +kernel
theorem dX3_constant_14 : decode cX3_constant 14 = .ok (.iconst 0, 1) := by decide +kernel
theorem dX3_constant_15 : decode cX3_constant 15 = .ok (.istore 5, 2) := by decide +kernel
theorem dX3_constant_17 : decode cX3_constant 17 = .ok (.iload 5, 2) := by decide +kernel
theorem dX3_constant_19 : decode cX3_constant 19 = .ok (.iload_n 1, 1) := by decide +kernel
theorem dX3_constant_20 : decode cX3_constant 20 = .ok (.if_icmp .ge 29, 3) := by decide +kernel
theorem dX3_constant_23 : decode cX3_constant 23 = .ok (.aload 4, 2) := by decide +kernel
theorem dX3_constant_25 : decode cX3_constant 25 = .ok (.iload 5, 2) := by decide +kernel
theorem dX3_constant_27 : decode cX3_constant 27 = .ok (.lload_n 2, 1) := by decide +kernel
theorem dX3_constant_28 : decode cX3_constant 28 = .ok (.iload 5, 2) := by decide +kernel
theorem dX3_constant_30 : decode cX3_constant 30 = .ok (.invokestatic 54, 3) := by decide +kernel
theorem dX3_constant_33 : decode cX3_constant 33 = .ok (.iconst 1, 1) := by decide +kernel
theorem dX3_constant_34 : decode cX3_constant 34 = .ok (.if_icmp .ne 7, 3) := by decide +kernel
theorem dX3_constant_37 : decode cX3_constant 37 = .ok (.iconst 1, 1) := by decide +kernel
theorem dX3_constant_38 : decode cX3_constant 38 = .ok (.goto 4, 3) := by decide +kernel
theorem dX3_constant_41 : decode cX3_constant 41 = .ok (.iconst 0, 1) := by decide +kernel
theorem dX3_constant_42 : decode cX3_constant 42 = .ok (.iastore, 1) := by decide +kernel
theorem dX3_constant_43 : decode cX3_constant 43 = .ok (.iinc 5 1, 3) := by decide +kernel
theorem dX3_constant_46 : decode cX3_constant 46 = .ok (.goto (-29), 3) := by decide +kernel
theorem dX3_constant_49 : decode cX3_constant 49 = .ok (.aload_n 0, 1) := by decide +kernel
theorem dX3_constant_50 : decode cX3_constant 50 = .ok (.new 45, 3) := by decide +kernel
theorem dX3_constant_53 : decode cX3_constant 53 = .ok (.dup, 1) := by decide +kernel
theorem dX3_constant_54 : decode cX3_constant 54 = .ok (.aload 4, 2) := by decide +kernel
theorem dX3_constant_56 : decode cX3_constant 56 = .ok (.iconst 0, 1) := by decide +kernel
theorem dX3_constant_57 : decode cX3_constant 57 = .ok (.invokespecial 47, 3) := by decide +kernel
theorem dX3_constant_60 : decode cX3_constant 60 = .ok (.iload_n 1, 1) := by decide +kernel
theorem dX3_constant_61 : decode cX3_constant 61 = .ok (.invokevirtual 50, 3) := by decide +kernel
theorem dX3_constant_64 : decode cX3_constant 64 = .ok (.ireturn, 1) := by decide +kernel
theorem dX3_one_0 : decode cX3_one 0 = .ok (.iload_n 1, 1) := by decide +kernel
theorem dX3_one_1 : decode cX3_one 1 = .ok (.iconst 1, 1) := by decide +kernel
theorem dX3_one_2 : decode cX3_one 2 = .ok (.invokestatic 58, 3) := by decide +kernel
theorem dX3_one_5 : decode cX3_one 5 = .ok (.aload_n 0, 1) := by decide +kernel
theorem dX3_one_6 : decode cX3_one 6 = .ok (.iload_n 2, 1) := by decide +kernel
theorem dX3_one_7 : decode cX3_one 7 = .ok (.invokevirtual 62, 3) := by decide +kernel
theorem dX3_one_10 : decode cX3_one 10 = .ok (.astore_n 3, 1) := by decide +kernel
theorem dX3_one_11 : decode cX3_one 11 = .ok (.iload_n 1, 1) := by decide +kernel
theorem dX3_one_12 : decode cX3_one 12 = .ok (.ifCond .ne 8, 3) := by decide +kernel
theorem dX3_one_15 : decode cX3_one 15 = .ok (.aload_n 3, 1) := by decide +kernel
theorem dX3_one_16 : decode cX3_one 16 = .ok (.arraylength, 1) := by decide +kernel
theorem dX3_one_17 : decode cX3_one 17 = .ok (.goto 8, 3) := by decide +kernel
theorem dX3_one_20 : decode cX3_one 20 = .ok (.bipush 10, 2) := by decide +kernel
theorem dX3_one_22 : decode cX3_one 22 = .ok (.aload_n 3, 1) := by decide +kernel
theorem dX3_one_23 : decode cX3_one 23 = .ok (.arraylength, 1) := by decide +kernel
theorem dX3_one_24 : decode cX3_one 24 = .ok (.imul, 1) := by decide +kernel
theorem dX3_one_25 : decode cX3_one 25 = .ok (.istore 4, 2) := by decide +kernel
theorem dX3_one_27 : decode cX3_one 27 = .ok (.aload_n 0, 1) := by decide +kernel
theorem dX3_one_28 : decode cX3_one 28 = .ok (.iload 4, 2) := by decide +kernel
theorem dX3_one_30 : decode cX3_one 30 = .ok (.invokevirtual 36, 3) := by decide +kernel
theorem dX3_one_33 : decode cX3_one 33 = .ok (.iload_n 1, 1) := by decide +kernel
theorem dX3_one_34 : decode cX3_one 34 = .ok (.ifCond .ne 14, 3) := by decide +kernel
theorem dX3_one_37 : decode cX3_one 37 = .ok (.aload_n 0, 1) := by decide +kernel
theorem dX3_one_38 : decode cX3_one 38 = .ok (.getfield 10, 3) := by decide +kernel
theorem dX3_one_41 : decode cX3_one 41 = .ok (.aload_n 3, 1) := by decide +kernel
theorem dX3_one_42 : decode cX3_one 42 = .ok (.invokevirtual 66, 3) := by decide +kernel
theorem dX3_one_45 : decode cX3_one 45 = .ok (.goto 12, 3) := by decide +kernel
theorem dX3_one_48 : decode cX3_one 48 = .ok (.aload_n 0, 1) := by decide +kernel
theorem dX3_one_49 : decode cX3_one 49 = .ok (.getfield 10, 3) := by decide +kernel
theorem dX3_one_52 : decode cX3_one 52 = .ok (.iconst 1, 1) := by decide +kernel
theorem dX3_one_53 : decode cX3_one 53 = .ok (.aload_n 3, 1) := by decide +kernel
theorem dX3_one_54 : decode cX3_one 54 = .ok (.invokevirtual 70, 3) := by decide +kernel
theorem dX3_one_57 : decode cX3_one 57 = .ok (.astore 5, 2) := by decide +kernel
theorem dX3_one_59 : decode cX3_one 59 = .ok (.aload_n 0, 1) := by decide +kernel
theorem dX3_one_60 : decode cX3_one 60 = .ok (.new 45, 3) := by decide +kernel
theorem dX3_one_63 : decode cX3_one 63 = .ok (.dup, 1) := by decide +kernel
theorem dX3_one_64 : decode cX3_one 64 = .ok (.aload 5, 2) := by decide +kernel
theorem dX3_one_66 : decode cX3_one 66 = .ok (.iconst 0, 1) := by decide +kernel
theorem dX3_one_67 : decode cX3_one 67 = .ok (.invokespecial 47, 3) := by decide +kernel
theorem dX3_one_70 : decode cX3_one 70 = .ok (.iload 4, 2) := by decide +kernel
theorem dX3_one_72 : decode cX3_one 72 = .ok (.invokevirtual 50, 3) := by decide +kernel
theorem dX3_one_75 : decode cX3_one 75 = .ok (.ireturn, 1) := by decide +kernel
theorem dX3_two_0 : decode cX3_two 0 = .ok (.iload_n 1, 1) := by decide +kernel
theorem dX3_two_1 : decode cX3_two 1 = .ok (.bipush 12, 2) := by decide +kernel
theorem dX3_two_3 : decode cX3_two 3 = .ok (.invokestatic 58, 3) := by decide +kernel
theorem dX3_two_6 : decode cX3_two 6 = .ok (.aload_n 0, 1) := by decide +kernel
theorem dX3_two_7 : decode cX3_two 7 = .ok (.iload_n 2, 1) := by decide +kernel
theorem dX3_two_8 : decode cX3_two 8 = .ok (.invokevirtual 62, 3) := by decide +kernel
theorem dX3_two_11 : decode cX3_two 11 = .ok (.astore 4, 2) := by decide +kernel
theorem dX3_two_13 : decode cX3_two 13 = .ok (.aload_n 0, 1) := by decide +kernel
theorem dX3_two_14 : decode cX3_two 14 = .ok (.iload_n 3, 1) := by decide +kernel
theorem dX3_two_15 : decode cX3_two 15 = .ok (.invokevirtual 62, 3) := by decide +kernel
theorem dX3_two_18 : decode cX3_two 18 = .ok (.astore 5, 2) := by decide +kernel
theorem dX3_two_20 : decode cX3_two 20 = .ok (.aload 4, 2) := by decide +kernel
theorem dX3_two_22 : decode cX3_two 22 = .ok (.aload 5, 2) := by decide +kernel
theorem dX3_two_24 : decode cX3_two 24 = .ok (.invokestatic 74, 3) := by decide +kernel
theorem dX3_two_27 : decode cX3_two 27 = .ok (.iload_n 1, 1) := by decide +kernel
theorem dX3_two_28 : decode cX3_two 28 = .ok (.aload 4, 2) := by decide +kernel
theorem dX3_two_30 : decode cX3_two 30 = .ok (.arraylength, 1) := by decide +kernel
theorem dX3_two_31 : decode cX3_two 31 = .ok (.invokestatic 78, 3) := by decide +kernel
theorem dX3_two_34 : decode cX3_two 34 = .ok (.istore 6, 2) := by decide +kernel
theorem dX3_two_36 : decode cX3_two 36 = .ok (.aload_n 0, 1) := by decide +kernel
theorem dX3_two_37 : decode cX3_two 37 = .ok (.iload 6, 2) := by decide +kernel
theorem dX3_two_39 : decode cX3_two 39 = .ok (.invokevirtual 36, 3) := by decide +kernel
theorem dX3_two_42 : decode cX3_two 42 = .ok (.aload_n 0, 1) := by decide +kernel
theorem dX3_two_43 : decode cX3_two 43 = .ok (.new 45, 3) := by decide +kernel
theorem dX3_two_46 : decode cX3_two 46 = .ok (.dup, 1) := by decide +kernel
theorem dX3_two_47 : decode cX3_two 47 = .ok (.aload_n 0, 1) := by decide +kernel
theorem dX3_two_48 : decode cX3_two 48 = .ok (.iload_n 1, 1) := by decide +kernel
theorem dX3_two_49 : decode cX3_two 49 = .ok (.aload 4, 2) := by decide +kernel
theorem dX3_two_51 : decode cX3_two 51 = .ok (.aload 5, 2) := by decide +kernel
theorem dX3_two_53 : decode cX3_two 53 = .ok (.invokevirtual 82, 3) := by decide +kernel
theorem dX3_two_56 : decode cX3_two 56 = .ok (.iconst 0, 1) := by decide +kernel
theorem dX3_two_57 : decode cX3_two 57 = .ok (.invokespecial 47, 3) := by decide +kernel
theorem dX3_two_60 : decode cX3_two 60 = .ok (.iload 6, 2) := by decide +kernel
theorem dX3_two_62 : decode cX3_two 62 = .ok (.invokevirtual 50, 3) := by decide +kernel
theorem dX3_two_65 : decode cX3_two 65 = .ok (.ireturn, 1) := by decide +kernel
theorem dX3_compare_0 : decode cX3_compare 0 = .ok (.iload_n 1, 1) := by decide +kernel
theorem dX3_compare_1 : decode cX3_compare 1 = .ok (.iconst 4, 1) := by decide +kernel
theorem dX3_compare_2 : decode cX3_compare 2 = .ok (.invokestatic 58, 3) := by decide +kernel
theorem dX3_compare_5 : decode cX3_compare 5 = .ok (.aload_n 0, 1) := by decide +kernel
theorem dX3_compare_6 : decode cX3_compare 6 = .ok (.iload_n 2, 1) := by decide +kernel
theorem dX3_compare_7 : decode cX3_compare 7 = .ok (.invokevirtual 62, 3) := by decide +kernel
theorem dX3_compare_10 : decode cX3_compare 10 = .ok (.astore 4, 2) := by decide +kernel
theorem dX3_compare_12 : decode cX3_compare 12 = .ok (.aload_n 0, 1) := by decide +kernel
theorem dX3_compare_13 : decode cX3_compare 13 = .ok (.iload_n 3, 1) := by decide +kernel
theorem dX3_compare_14 : decode cX3_compare 14 = .ok (.invokevirtual 62, 3) := by decide +kernel
theorem dX3_compare_17 : decode cX3_compare 17 = .ok (.astore 5, 2) := by decide +kernel
theorem dX3_compare_19 : decode cX3_compare 19 = .ok (.aload 4, 2) := by decide +kernel
theorem dX3_compare_21 : decode cX3_compare 21 = .ok (.aload 5, 2) := by decide +kernel
theorem dX3_compare_23 : decode cX3_compare 23 = .ok (.invokestatic 74, 3) := by decide +kernel
theorem dX3_compare_26 : decode cX3_compare 26 = .ok (.bipush 10, 2) := by decide +kernel
theorem dX3_compare_28 : decode cX3_compare 28 = .ok (.aload 4, 2) := by decide +kernel
theorem dX3_compare_30 : decode cX3_compare 30 = .ok (.arraylength, 1) := by decide +kernel
theorem dX3_compare_31 : decode cX3_compare 31 = .ok (.imul, 1) := by decide +kernel
theorem dX3_compare_32 : decode cX3_compare 32 = .ok (.istore 6, 2) := by decide +kernel
theorem dX3_compare_34 : decode cX3_compare 34 = .ok (.aload_n 0, 1) := by decide +kernel
theorem dX3_compare_35 : decode cX3_compare 35 = .ok (.iload 6, 2) := by decide +kernel
theorem dX3_compare_37 : decode cX3_compare 37 = .ok (.invokevirtual 36, 3) := by decide +kernel
theorem dX3_compare_40 : decode cX3_compare 40 = .ok (.iconst 1, 1) := by decide +kernel
theorem dX3_compare_41 : decode cX3_compare 41 = .ok (.newarray .int, 2) := by decide +kernel
theorem dX3_compare_43 : decode cX3_compare 43 = .ok (.astore 7, 2) := by decide +kernel
theorem dX3_compare_45 : decode cX3_compare 45 = .ok (.aload 7, 2) := by decide +kernel
theorem dX3_compare_47 : decode cX3_compare 47 = .ok (.iconst 0, 1) := by decide +kernel
theorem dX3_compare_48 : decode cX3_compare 48 = .ok (.aload_n 0, 1) := by decide +kernel
theorem dX3_compare_49 : decode cX3_compare 49 = .ok (.iload_n 1, 1) := by decide +kernel
theorem dX3_compare_50 : decode cX3_compare 50 = .ok (.aload 4, 2) := by decide +kernel
theorem dX3_compare_52 : decode cX3_compare 52 = .ok (.aload 5, 2) := by decide +kernel
theorem dX3_compare_54 : decode cX3_compare 54 = .ok (.invokevirtual 86, 3) := by decide +kernel
theorem dX3_compare_57 : decode cX3_compare 57 = .ok (.iastore, 1) := by decide +kernel
theorem dX3_compare_58 : decode cX3_compare 58 = .ok (.aload_n 0, 1) := by decide +kernel
theorem dX3_compare_59 : decode cX3_compare 59 = .ok (.new 45, 3) := by decide +kernel
theorem dX3_compare_62 : decode cX3_compare 62 = .ok (.dup, 1) := by decide +kernel
theorem dX3_compare_63 : decode cX3_compare 63 = .ok (.aload 7, 2) := by decide +kernel
theorem dX3_compare_65 : decode cX3_compare 65 = .ok (.iconst 0, 1) := by decide +kernel
theorem dX3_compare_66 : decode cX3_compare 66 = .ok (.invokespecial 47, 3) := by decide +kernel
theorem dX3_compare_69 : decode cX3_compare 69 = .ok (.iload 6, 2) := by decide +kernel
theorem dX3_compare_71 : decode cX3_compare 71 = .ok (.invokevirtual 50, 3) := by decide +kernel
theorem dX3_compare_74 : decode cX3_compare 74 = .ok (.ireturn, 1) := by decide +kernel
theorem dX3_choose_0 : decode cX3_choose 0 = .ok (.aload_n 0, 1) := by decide +kernel
theorem dX3_choose_1 : decode cX3_choose 1 = .ok (.iload_n 1, 1) := by decide +kernel
theorem dX3_choose_2 : decode cX3_choose 2 = .ok (.invokevirtual 62, 3) := by decide +kernel
theorem dX3_choose_5 : decode cX3_choose 5 = .ok (.astore 4, 2) := by decide +kernel
theorem dX3_choose_7 : decode cX3_choose 7 = .ok (.aload_n 0, 1) := by decide +kernel
theorem dX3_choose_8 : decode cX3_choose 8 = .ok (.iload_n 2, 1) := by decide +kernel
theorem dX3_choose_9 : decode cX3_choose 9 = .ok (.invokevirtual 62, 3) := by decide +kernel
theorem dX3_choose_12 : decode cX3_choose 12 = .ok (.astore 5, 2) := by decide +kernel
theorem dX3_choose_14 : decode cX3_choose 14 = .ok (.aload_n 0, 1) := by decide +kernel
theorem dX3_choose_15 : decode cX3_choose 15 = .ok (.iload_n 3, 1) := by decide +kernel
theorem dX3_choose_16 : decode cX3_choose 16 = .ok (.invokevirtual 62, 3) := by decide +kernel
theorem dX3_choose_19 : decode cX3_choose 19 = .ok (.astore 6, 2) := by decide +kernel
theorem dX3_choose_21 : decode cX3_choose 21 = .ok (.aload 5, 2) := by decide +kernel
theorem dX3_choose_23 : decode cX3_choose 23 = .ok (.aload 6, 2) := by decide +kernel
theorem dX3_choose_25 : decode cX3_choose 25 = .ok (.invokestatic 74, 3) := by decide +kernel
theorem dX3_choose_28 : decode cX3_choose 28 = .ok (.aload 4, 2) := by decide +kernel
theorem dX3_choose_30 : decode cX3_choose 30 = .ok (.arraylength, 1) := by decide +kernel
theorem dX3_choose_31 : decode cX3_choose 31 = .ok (.iconst 1, 1) := by decide +kernel
theorem dX3_choose_32 : decode cX3_choose 32 = .ok (.if_icmp .eq 13, 3) := by decide +kernel
theorem dX3_choose_35 : decode cX3_choose 35 = .ok (.new 90, 3) := by decide +kernel
theorem dX3_choose_38 : decode cX3_choose 38 = .ok (.dup, 1) := by decide +kernel
theorem dX3_choose_39 : decode cX3_choose 39 = .ok (.ldc 92, 2) := by decide +kernel
theorem dX3_choose_41 : decode cX3_choose 41 = .ok (.invokespecial 94, 3) := by decide +kernel
theorem dX3_choose_44 : decode cX3_choose 44 = .ok (.athrow, 1) := by decide +kernel
theorem dX3_choose_45 : decode cX3_choose 45 = .ok (.iconst 4, 1) := by decide +kernel
theorem dX3_choose_46 : decode cX3_choose 46 = .ok (.aload 5, 2) := by decide +kernel
theorem dX3_choose_48 : decode cX3_choose 48 = .ok (.arraylength, 1) := by decide +kernel
theorem dX3_choose_49 : decode cX3_choose 49 = .ok (.imul, 1) := by decide +kernel
theorem dX3_choose_50 : decode cX3_choose 50 = .ok (.istore 7, 2) := by decide +kernel
theorem dX3_choose_52 : decode cX3_choose 52 = .ok (.aload_n 0, 1) := by decide +kernel
theorem dX3_choose_53 : decode cX3_choose 53 = .ok (.iload 7, 2) := by decide +kernel
theorem dX3_choose_55 : decode cX3_choose 55 = .ok (.invokevirtual 36, 3) := by decide +kernel
theorem dX3_choose_58 : decode cX3_choose 58 = .ok (.aload_n 0, 1) := by decide +kernel
theorem dX3_choose_59 : decode cX3_choose 59 = .ok (.new 45, 3) := by decide +kernel
theorem dX3_choose_62 : decode cX3_choose 62 = .ok (.dup, 1) := by decide +kernel
theorem dX3_choose_63 : decode cX3_choose 63 = .ok (.aload_n 0, 1) := by decide +kernel
theorem dX3_choose_64 : decode cX3_choose 64 = .ok (.getfield 10, 3) := by decide +kernel
theorem dX3_choose_67 : decode cX3_choose 67 = .ok (.aload 4, 2) := by decide +kernel
theorem dX3_choose_69 : decode cX3_choose 69 = .ok (.iconst 0, 1) := by decide +kernel
theorem dX3_choose_70 : decode cX3_choose 70 = .ok (.iaload, 1) := by decide +kernel
theorem dX3_choose_71 : decode cX3_choose 71 = .ok (.aload 5, 2) := by decide +kernel
theorem dX3_choose_73 : decode cX3_choose 73 = .ok (.aload 6, 2) := by decide +kernel
theorem dX3_choose_75 : decode cX3_choose 75 = .ok (.invokevirtual 97, 3) := by decide +kernel
theorem dX3_choose_78 : decode cX3_choose 78 = .ok (.iconst 0, 1) := by decide +kernel
theorem dX3_choose_79 : decode cX3_choose 79 = .ok (.invokespecial 47, 3) := by decide +kernel
theorem dX3_choose_82 : decode cX3_choose 82 = .ok (.iload 7, 2) := by decide +kernel
theorem dX3_choose_84 : decode cX3_choose 84 = .ok (.invokevirtual 50, 3) := by decide +kernel
theorem dX3_choose_87 : decode cX3_choose 87 = .ok (.ireturn, 1) := by decide +kernel
theorem dX3_concat_0 : decode cX3_concat 0 = .ok (.aload_n 0, 1) := by decide +kernel
theorem dX3_concat_1 : decode cX3_concat 1 = .ok (.iload_n 1, 1) := by decide +kernel
theorem dX3_concat_2 : decode cX3_concat 2 = .ok (.invokevirtual 62, 3) := by decide +kernel
theorem dX3_concat_5 : decode cX3_concat 5 = .ok (.astore_n 3, 1) := by decide +kernel
theorem dX3_concat_6 : decode cX3_concat 6 = .ok (.aload_n 0, 1) := by decide +kernel
theorem dX3_concat_7 : decode cX3_concat 7 = .ok (.iload_n 2, 1) := by decide +kernel
theorem dX3_concat_8 : decode cX3_concat 8 = .ok (.invokevirtual 62, 3) := by decide +kernel
theorem dX3_concat_11 : decode cX3_concat 11 = .ok (.astore 4, 2) := by decide +kernel
theorem dX3_concat_13 : decode cX3_concat 13 = .ok (.aload_n 3, 1) := by decide +kernel
theorem dX3_concat_14 : decode cX3_concat 14 = .ok (.arraylength, 1) := by decide +kernel
theorem dX3_concat_15 : decode cX3_concat 15 = .ok (.aload 4, 2) := by decide +kernel
theorem dX3_concat_17 : decode cX3_concat 17 = .ok (.arraylength, 1) := by decide +kernel
theorem dX3_concat_18 : decode cX3_concat 18 = .ok (.iadd, 1) := by decide +kernel
theorem dX3_concat_19 : decode cX3_concat 19 = .ok (.istore 5, 2) := by decide +kernel
theorem dX3_concat_21 : decode cX3_concat 21 = .ok (.iload 5, 2) := by decide +kernel
theorem dX3_concat_23 : decode cX3_concat 23 = .ok (.invokestatic 32, 3) := by decide +kernel
theorem dX3_concat_26 : decode cX3_concat 26 = .ok (.aload_n 0, 1) := by decide +kernel
theorem dX3_concat_27 : decode cX3_concat 27 = .ok (.iload 5, 2) := by decide +kernel
theorem dX3_concat_29 : decode cX3_concat 29 = .ok (.invokevirtual 36, 3) := by decide +kernel
theorem dX3_concat_32 : decode cX3_concat 32 = .ok (.aload 4, 2) := by decide +kernel
theorem dX3_concat_34 : decode cX3_concat 34 = .ok (.iload 5, 2) := by decide +kernel
theorem dX3_concat_36 : decode cX3_concat 36 = .ok (.invokestatic 100, 3) := by decide +kernel
theorem dX3_concat_39 : decode cX3_concat 39 = .ok (.astore 6, 2) := by decide +kernel
theorem dX3_concat_41 : decode cX3_concat 41 = .ok (.aload_n 3, 1) := by decide +kernel
theorem dX3_concat_42 : decode cX3_concat 42 = .ok (.iconst 0, 1) := by decide +kernel
theorem dX3_concat_43 : decode cX3_concat 43 = .ok (.aload 6, 2) := by decide +kernel
theorem dX3_concat_45 : decode cX3_concat 45 = .ok (.aload 4, 2) := by decide +kernel
theorem dX3_concat_47 : decode cX3_concat 47 = .ok (.arraylength, 1) := by decide +kernel
theorem dX3_concat_48 : decode cX3_concat 48 = .ok (.aload_n 3, 1) := by decide +kernel
theorem dX3_concat_49 : decode cX3_concat 49 = .ok (.arraylength, 1) := by decide +kernel
theorem dX3_concat_50 : decode cX3_concat 50 = .ok (.invokestatic 106, 3) := by decide +kernel
theorem dX3_concat_53 : decode cX3_concat 53 = .ok (.aload_n 0, 1) := by decide +kernel
theorem dX3_concat_54 : decode cX3_concat 54 = .ok (.new 45, 3) := by decide +kernel
theorem dX3_concat_57 : decode cX3_concat 57 = .ok (.dup, 1) := by decide +kernel
theorem dX3_concat_58 : decode cX3_concat 58 = .ok (.aload 6, 2) := by decide +kernel
theorem dX3_concat_60 : decode cX3_concat 60 = .ok (.iconst 0, 1) := by decide +kernel
theorem dX3_concat_61 : decode cX3_concat 61 = .ok (.invokespecial 47, 3) := by decide +kernel
theorem dX3_concat_64 : decode cX3_concat 64 = .ok (.iload 5, 2) := by decide +kernel
theorem dX3_concat_66 : decode cX3_concat 66 = .ok (.invokevirtual 50, 3) := by decide +kernel
theorem dX3_concat_69 : decode cX3_concat 69 = .ok (.ireturn, 1) := by decide +kernel
theorem dX3_extract_0 : decode cX3_extract 0 = .ok (.aload_n 0, 1) := by decide +kernel
theorem dX3_extract_1 : decode cX3_extract 1 = .ok (.iload_n 1, 1) := by decide +kernel
theorem dX3_extract_2 : decode cX3_extract 2 = .ok (.invokevirtual 62, 3) := by decide +kernel
theorem dX3_extract_5 : decode cX3_extract 5 = .ok (.astore 4, 2) := by decide +kernel
theorem dX3_extract_7 : decode cX3_extract 7 = .ok (.iload_n 3, 1) := by decide +kernel
theorem dX3_extract_8 : decode cX3_extract 8 = .ok (.ifCond .lt 15, 3) := by decide +kernel
theorem dX3_extract_11 : decode cX3_extract 11 = .ok (.iload_n 2, 1) := by decide +kernel
theorem dX3_extract_12 : decode cX3_extract 12 = .ok (.iload_n 3, 1) := by decide +kernel
theorem dX3_extract_13 : decode cX3_extract 13 = .ok (.if_icmp .lt 10, 3) := by decide +kernel
theorem dX3_extract_16 : decode cX3_extract 16 = .ok (.iload_n 2, 1) := by decide +kernel
theorem dX3_extract_17 : decode cX3_extract 17 = .ok (.aload 4, 2) := by decide +kernel
theorem dX3_extract_19 : decode cX3_extract 19 = .ok (.arraylength, 1) := by decide +kernel
theorem dX3_extract_20 : decode cX3_extract 20 = .ok (.if_icmp .lt 13, 3) := by decide +kernel
theorem dX3_extract_23 : decode cX3_extract 23 = .ok (.new 90, 3) := by decide +kernel
theorem dX3_extract_26 : decode cX3_extract 26 = .ok (.dup, 1) := by decide +kernel
theorem dX3_extract_27 : decode cX3_extract 27 = .ok (.ldc 112, 2) := by decide +kernel
theorem dX3_extract_29 : decode cX3_extract 29 = .ok (.invokespecial 94, 3) := by decide +kernel
theorem dX3_extract_32 : decode cX3_extract 32 = .ok (.athrow, 1) := by decide +kernel
theorem dX3_extract_33 : decode cX3_extract 33 = .ok (.iload_n 2, 1) := by decide +kernel
theorem dX3_extract_34 : decode cX3_extract 34 = .ok (.iload_n 3, 1) := by decide +kernel
theorem dX3_extract_35 : decode cX3_extract 35 = .ok (.isub, 1) := by decide +kernel
theorem dX3_extract_36 : decode cX3_extract 36 = .ok (.iconst 1, 1) := by decide +kernel
theorem dX3_extract_37 : decode cX3_extract 37 = .ok (.iadd, 1) := by decide +kernel
theorem dX3_extract_38 : decode cX3_extract 38 = .ok (.istore 5, 2) := by decide +kernel
theorem dX3_extract_40 : decode cX3_extract 40 = .ok (.aload_n 0, 1) := by decide +kernel
theorem dX3_extract_41 : decode cX3_extract 41 = .ok (.iload 5, 2) := by decide +kernel
theorem dX3_extract_43 : decode cX3_extract 43 = .ok (.invokevirtual 36, 3) := by decide +kernel
theorem dX3_extract_46 : decode cX3_extract 46 = .ok (.aload_n 0, 1) := by decide +kernel
theorem dX3_extract_47 : decode cX3_extract 47 = .ok (.new 45, 3) := by decide +kernel
theorem dX3_extract_50 : decode cX3_extract 50 = .ok (.dup, 1) := by decide +kernel
theorem dX3_extract_51 : decode cX3_extract 51 = .ok (.aload 4, 2) := by decide +kernel
theorem dX3_extract_53 : decode cX3_extract 53 = .ok (.iload_n 3, 1) := by decide +kernel
theorem dX3_extract_54 : decode cX3_extract 54 = .ok (.iload_n 2, 1) := by decide +kernel
theorem dX3_extract_55 : decode cX3_extract 55 = .ok (.iconst 1, 1) := by decide +kernel
theorem dX3_extract_56 : decode cX3_extract 56 = .ok (.iadd, 1) := by decide +kernel
theorem dX3_extract_57 : decode cX3_extract 57 = .ok (.invokestatic 114, 3) := by decide +kernel
theorem dX3_extract_60 : decode cX3_extract 60 = .ok (.iconst 0, 1) := by decide +kernel
theorem dX3_extract_61 : decode cX3_extract 61 = .ok (.invokespecial 47, 3) := by decide +kernel
theorem dX3_extract_64 : decode cX3_extract 64 = .ok (.iload 5, 2) := by decide +kernel
theorem dX3_extract_66 : decode cX3_extract 66 = .ok (.invokevirtual 50, 3) := by decide +kernel
theorem dX3_extract_69 : decode cX3_extract 69 = .ok (.ireturn, 1) := by decide +kernel
theorem dX3_extend_0 : decode cX3_extend 0 = .ok (.aload_n 0, 1) := by decide +kernel
theorem dX3_extend_1 : decode cX3_extend 1 = .ok (.iload_n 1, 1) := by decide +kernel
theorem dX3_extend_2 : decode cX3_extend 2 = .ok (.invokevirtual 62, 3) := by decide +kernel
theorem dX3_extend_5 : decode cX3_extend 5 = .ok (.astore 4, 2) := by decide +kernel
theorem dX3_extend_7 : decode cX3_extend 7 = .ok (.iload_n 2, 1) := by decide +kernel
theorem dX3_extend_8 : decode cX3_extend 8 = .ok (.ifCond .lt 13, 3) := by decide +kernel
theorem dX3_extend_11 : decode cX3_extend 11 = .ok (.iload_n 2, 1) := by decide +kernel
theorem dX3_extend_12 : decode cX3_extend 12 = .ok (.bipush 64, 2) := by decide +kernel
theorem dX3_extend_14 : decode cX3_extend 14 = .ok (.aload 4, 2) := by decide +kernel
theorem dX3_extend_16 : decode cX3_extend 16 = .ok (.arraylength, 1) := by decide +kernel
theorem dX3_extend_17 : decode cX3_extend 17 = .ok (.isub, 1) := by decide +kernel
theorem dX3_extend_18 : decode cX3_extend 18 = .ok (.if_icmp .le 13, 3) := by decide +kernel
theorem dX3_extend_21 : decode cX3_extend 21 = .ok (.new 90, 3) := by decide +kernel
theorem dX3_extend_24 : decode cX3_extend 24 = .ok (.dup, 1) := by decide +kernel
theorem dX3_extend_25 : decode cX3_extend 25 = .ok (.ldc 118, 2) := by decide +kernel
theorem dX3_extend_27 : decode cX3_extend 27 = .ok (.invokespecial 94, 3) := by decide +kernel
theorem dX3_extend_30 : decode cX3_extend 30 = .ok (.athrow, 1) := by decide +kernel
theorem dX3_extend_31 : decode cX3_extend 31 = .ok (.aload 4, 2) := by decide +kernel
theorem dX3_extend_33 : decode cX3_extend 33 = .ok (.arraylength, 1) := by decide +kernel
theorem dX3_extend_34 : decode cX3_extend 34 = .ok (.iload_n 2, 1) := by decide +kernel
theorem dX3_extend_35 : decode cX3_extend 35 = .ok (.iadd, 1) := by decide +kernel
theorem dX3_extend_36 : decode cX3_extend 36 = .ok (.istore 5, 2) := by decide +kernel
theorem dX3_extend_38 : decode cX3_extend 38 = .ok (.aload_n 0, 1) := by decide +kernel
theorem dX3_extend_39 : decode cX3_extend 39 = .ok (.iload 5, 2) := by decide +kernel
theorem dX3_extend_41 : decode cX3_extend 41 = .ok (.invokevirtual 36, 3) := by decide +kernel
theorem dX3_extend_44 : decode cX3_extend 44 = .ok (.aload 4, 2) := by decide +kernel
theorem dX3_extend_46 : decode cX3_extend 46 = .ok (.iload 5, 2) := by decide +kernel
theorem dX3_extend_48 : decode cX3_extend 48 = .ok (.invokestatic 100, 3) := by decide +kernel
theorem dX3_extend_51 : decode cX3_extend 51 = .ok (.astore 6, 2) := by decide +kernel
theorem dX3_extend_53 : decode cX3_extend 53 = .ok (.aload 6, 2) := by decide +kernel
theorem dX3_extend_55 : decode cX3_extend 55 = .ok (.aload 4, 2) := by decide +kernel
theorem dX3_extend_57 : decode cX3_extend 57 = .ok (.arraylength, 1) := by decide +kernel
theorem dX3_extend_58 : decode cX3_extend 58 = .ok (.iload 5, 2) := by decide +kernel
theorem dX3_extend_60 : decode cX3_extend 60 = .ok (.iload_n 3, 1) := by decide +kernel
theorem dX3_extend_61 : decode cX3_extend 61 = .ok (.ifCond .eq 14, 3) := by decide +kernel
theorem dX3_extend_64 : decode cX3_extend 64 = .ok (.aload 4, 2) := by decide +kernel
theorem dX3_extend_66 : decode cX3_extend 66 = .ok (.aload 4, 2) := by decide +kernel
theorem dX3_extend_68 : decode cX3_extend 68 = .ok (.arraylength, 1) := by decide +kernel
theorem dX3_extend_69 : decode cX3_extend 69 = .ok (.iconst 1, 1) := by decide +kernel
theorem dX3_extend_70 : decode cX3_extend 70 = .ok (.isub, 1) := by decide +kernel
theorem dX3_extend_71 : decode cX3_extend 71 = .ok (.iaload, 1) := by decide +kernel
theorem dX3_extend_72 : decode cX3_extend 72 = .ok (.goto 4, 3) := by decide +kernel
theorem dX3_extend_75 : decode cX3_extend 75 = .ok (.iconst 0, 1) := by decide +kernel
theorem dX3_extend_76 : decode cX3_extend 76 = .ok (.invokestatic 120, 3) := by decide +kernel
theorem dX3_extend_79 : decode cX3_extend 79 = .ok (.aload_n 0, 1) := by decide +kernel
theorem dX3_extend_80 : decode cX3_extend 80 = .ok (.new 45, 3) := by decide +kernel
theorem dX3_extend_83 : decode cX3_extend 83 = .ok (.dup, 1) := by decide +kernel
theorem dX3_extend_84 : decode cX3_extend 84 = .ok (.aload 6, 2) := by decide +kernel
theorem dX3_extend_86 : decode cX3_extend 86 = .ok (.iconst 0, 1) := by decide +kernel
theorem dX3_extend_87 : decode cX3_extend 87 = .ok (.invokespecial 47, 3) := by decide +kernel
theorem dX3_extend_90 : decode cX3_extend 90 = .ok (.iload 5, 2) := by decide +kernel
theorem dX3_extend_92 : decode cX3_extend 92 = .ok (.invokevirtual 50, 3) := by decide +kernel
theorem dX3_extend_95 : decode cX3_extend 95 = .ok (.ireturn, 1) := by decide +kernel
theorem dX3_set_0 : decode cX3_set 0 = .ok (.aload_n 0, 1) := by decide +kernel
theorem dX3_set_1 : decode cX3_set 1 = .ok (.iload_n 1, 1) := by decide +kernel
theorem dX3_set_2 : decode cX3_set 2 = .ok (.invokevirtual 62, 3) := by decide +kernel
theorem dX3_set_5 : decode cX3_set 5 = .ok (.astore 4, 2) := by decide +kernel
theorem dX3_set_7 : decode cX3_set 7 = .ok (.aload_n 0, 1) := by decide +kernel
theorem dX3_set_8 : decode cX3_set 8 = .ok (.getfield 24, 3) := by decide +kernel
theorem dX3_set_11 : decode cX3_set 11 = .ok (.iload_n 1, 1) := by decide +kernel
theorem dX3_set_12 : decode cX3_set 12 = .ok (.invokevirtual 124, 3) := by decide +kernel
theorem dX3_set_15 : decode cX3_set 15 = .ok (.checkcast 45, 3) := by decide +kernel
theorem dX3_set_18 : decode cX3_set 18 = .ok (.getfield 128, 3) := by decide +kernel
theorem dX3_set_21 : decode cX3_set 21 = .ok (.ifCond .ne 13, 3) := by decide +kernel
theorem dX3_set_24 : decode cX3_set 24 = .ok (.new 90, 3) := by decide +kernel
theorem dX3_set_27 : decode cX3_set 27 = .ok (.dup, 1) := by decide +kernel
theorem dX3_set_28 : decode cX3_set 28 = .ok (.ldc 132, 2) := by decide +kernel
theorem dX3_set_30 : decode cX3_set 30 = .ok (.invokespecial 94, 3) := by decide +kernel
theorem dX3_set_33 : decode cX3_set 33 = .ok (.athrow, 1) := by decide +kernel
theorem dX3_set_34 : decode cX3_set 34 = .ok (.lconst 0, 1) := by decide +kernel
theorem dX3_set_35 : decode cX3_set 35 = .ok (.lstore 5, 2) := by decide +kernel
theorem dX3_set_37 : decode cX3_set 37 = .ok (.iconst 0, 1) := by decide +kernel
theorem dX3_set_38 : decode cX3_set 38 = .ok (.istore 7, 2) := by decide +kernel
theorem dX3_set_40 : decode cX3_set 40 = .ok (.iload 7, 2) := by decide +kernel
theorem dX3_set_42 : decode cX3_set 42 = .ok (.aload 4, 2) := by decide +kernel
theorem dX3_set_44 : decode cX3_set 44 = .ok (.arraylength, 1) := by decide +kernel
theorem dX3_set_45 : decode cX3_set 45 = .ok (.if_icmp .ge 36, 3) := by decide +kernel
theorem dX3_set_48 : decode cX3_set 48 = .ok (.lload 5, 2) := by decide +kernel
theorem dX3_set_50 : decode cX3_set 50 = .ok (.aload_n 0, 1) := by decide +kernel
theorem dX3_set_51 : decode cX3_set 51 = .ok (.getfield 20, 3) := by decide +kernel
theorem dX3_set_54 : decode cX3_set 54 = .ok (.aload 4, 2) := by decide +kernel
theorem dX3_set_56 : decode cX3_set 56 = .ok (.iload 7, 2) := by decide +kernel
theorem dX3_set_58 : decode cX3_set 58 = .ok (.iaload, 1) := by decide +kernel
theorem dX3_set_59 : decode cX3_set 59 = .ok (.lload_n 2, 1) := by decide +kernel
theorem dX3_set_60 : decode cX3_set 60 = .ok (.iload 7, 2) := by decide +kernel
theorem dX3_set_62 : decode cX3_set 62 = .ok (.invokestatic 54, 3) := by decide +kernel
theorem dX3_set_65 : decode cX3_set 65 = .ok (.invokevirtual 134, 3) := by decide +kernel
theorem dX3_set_68 : decode cX3_set 68 = .ok (.i2l, 1) := by decide +kernel
theorem dX3_set_69 : decode cX3_set 69 = .ok (.iload 7, 2) := by decide +kernel
theorem dX3_set_71 : decode cX3_set 71 = .ok (.lshl, 1) := by decide +kernel
theorem dX3_set_72 : decode cX3_set 72 = .ok (.lor, 1) := by decide +kernel
theorem dX3_set_73 : decode cX3_set 73 = .ok (.lstore 5, 2) := by decide +kernel
theorem dX3_set_75 : decode cX3_set 75 = .ok (.iinc 7 1, 3) := by decide +kernel
theorem dX3_set_78 : decode cX3_set 78 = .ok (.goto (-38), 3) := by decide +kernel
theorem dX3_set_81 : decode cX3_set 81 = .ok (.lload 5, 2) := by decide +kernel
theorem dX3_set_83 : decode cX3_set 83 = .ok (.lreturn, 1) := by decide +kernel
theorem dX3_value_0 : decode cX3_value 0 = .ok (.aload_n 0, 1) := by decide +kernel
theorem dX3_value_1 : decode cX3_value 1 = .ok (.iload_n 1, 1) := by decide +kernel
theorem dX3_value_2 : decode cX3_value 2 = .ok (.invokevirtual 62, 3) := by decide +kernel
theorem dX3_value_5 : decode cX3_value 5 = .ok (.astore_n 2, 1) := by decide +kernel
theorem dX3_value_6 : decode cX3_value 6 = .ok (.lconst 0, 1) := by decide +kernel
theorem dX3_value_7 : decode cX3_value 7 = .ok (.lstore_n 3, 1) := by decide +kernel
theorem dX3_value_8 : decode cX3_value 8 = .ok (.iconst 0, 1) := by decide +kernel
theorem dX3_value_9 : decode cX3_value 9 = .ok (.istore 5, 2) := by decide +kernel
theorem dX3_value_11 : decode cX3_value 11 = .ok (.iload 5, 2) := by decide +kernel
theorem dX3_value_13 : decode cX3_value 13 = .ok (.aload_n 2, 1) := by decide +kernel
theorem dX3_value_14 : decode cX3_value 14 = .ok (.arraylength, 1) := by decide +kernel
theorem dX3_value_15 : decode cX3_value 15 = .ok (.if_icmp .ge 27, 3) := by decide +kernel
theorem dX3_value_18 : decode cX3_value 18 = .ok (.lload_n 3, 1) := by decide +kernel
theorem dX3_value_19 : decode cX3_value 19 = .ok (.aload_n 0, 1) := by decide +kernel
theorem dX3_value_20 : decode cX3_value 20 = .ok (.getfield 20, 3) := by decide +kernel
theorem dX3_value_23 : decode cX3_value 23 = .ok (.aload_n 2, 1) := by decide +kernel
theorem dX3_value_24 : decode cX3_value 24 = .ok (.iload 5, 2) := by decide +kernel
theorem dX3_value_26 : decode cX3_value 26 = .ok (.iaload, 1) := by decide +kernel
theorem dX3_value_27 : decode cX3_value 27 = .ok (.invokevirtual 137, 3) := by decide +kernel
theorem dX3_value_30 : decode cX3_value 30 = .ok (.i2l, 1) := by decide +kernel
theorem dX3_value_31 : decode cX3_value 31 = .ok (.iload 5, 2) := by decide +kernel
theorem dX3_value_33 : decode cX3_value 33 = .ok (.lshl, 1) := by decide +kernel
theorem dX3_value_34 : decode cX3_value 34 = .ok (.lor, 1) := by decide +kernel
theorem dX3_value_35 : decode cX3_value 35 = .ok (.lstore_n 3, 1) := by decide +kernel
theorem dX3_value_36 : decode cX3_value 36 = .ok (.iinc 5 1, 3) := by decide +kernel
theorem dX3_value_39 : decode cX3_value 39 = .ok (.goto (-28), 3) := by decide +kernel
theorem dX3_value_42 : decode cX3_value 42 = .ok (.lload_n 3, 1) := by decide +kernel
theorem dX3_value_43 : decode cX3_value 43 = .ok (.lreturn, 1) := by decide +kernel
theorem dX3_width_0 : decode cX3_width 0 = .ok (.aload_n 0, 1) := by decide +kernel
theorem dX3_width_1 : decode cX3_width 1 = .ok (.iload_n 1, 1) := by decide +kernel
theorem dX3_width_2 : decode cX3_width 2 = .ok (.invokevirtual 62, 3) := by decide +kernel
theorem dX3_width_5 : decode cX3_width 5 = .ok (.arraylength, 1) := by decide +kernel
theorem dX3_width_6 : decode cX3_width 6 = .ok (.ireturn, 1) := by decide +kernel
theorem dX3_weight_0 : decode cX3_weight 0 = .ok (.aload_n 0, 1) := by decide +kernel
theorem dX3_weight_1 : decode cX3_weight 1 = .ok (.getfield 28, 3) := by decide +kernel
theorem dX3_weight_4 : decode cX3_weight 4 = .ok (.ireturn, 1) := by decide +kernel
theorem dX3_vectors_0 : decode cX3_vectors 0 = .ok (.aload_n 0, 1) := by decide +kernel
theorem dX3_vectors_1 : decode cX3_vectors 1 = .ok (.getfield 24, 3) := by decide +kernel
theorem dX3_vectors_4 : decode cX3_vectors 4 = .ok (.invokevirtual 141, 3) := by decide +kernel
theorem dX3_vectors_7 : decode cX3_vectors 7 = .ok (.ireturn, 1) := by decide +kernel
theorem dX3_bitOf_0 : decode cX3_bitOf 0 = .ok (.lload_n 0, 1) := by decide +kernel
theorem dX3_bitOf_1 : decode cX3_bitOf 1 = .ok (.iload_n 2, 1) := by decide +kernel
theorem dX3_bitOf_2 : decode cX3_bitOf 2 = .ok (.lushr, 1) := by decide +kernel
theorem dX3_bitOf_3 : decode cX3_bitOf 3 = .ok (.lconst 1, 1) := by decide +kernel
theorem dX3_bitOf_4 : decode cX3_bitOf 4 = .ok (.land, 1) := by decide +kernel
theorem dX3_bitOf_5 : decode cX3_bitOf 5 = .ok (.l2i, 1) := by decide +kernel
theorem dX3_bitOf_6 : decode cX3_bitOf 6 = .ok (.ireturn, 1) := by decide +kernel
theorem dX3_needWidth_0 : decode cX3_needWidth 0 = .ok (.iload_n 0, 1) := by decide +kernel
theorem dX3_needWidth_1 : decode cX3_needWidth 1 = .ok (.iconst 1, 1) := by decide +kernel
theorem dX3_needWidth_2 : decode cX3_needWidth 2 = .ok (.if_icmp .lt 9, 3) := by decide +kernel
theorem dX3_needWidth_5 : decode cX3_needWidth 5 = .ok (.iload_n 0, 1) := by decide +kernel
theorem dX3_needWidth_6 : decode cX3_needWidth 6 = .ok (.bipush 64, 2) := by decide +kernel
theorem dX3_needWidth_8 : decode cX3_needWidth 8 = .ok (.if_icmp .le 13, 3) := by decide +kernel
theorem dX3_needWidth_11 : decode cX3_needWidth 11 = .ok (.new 90, 3) := by decide +kernel
theorem dX3_needWidth_14 : decode cX3_needWidth 14 = .ok (.dup, 1) := by decide +kernel
theorem dX3_needWidth_15 : decode cX3_needWidth 15 = .ok (.ldc 144, 2) := by decide +kernel
theorem dX3_needWidth_17 : decode cX3_needWidth 17 = .ok (.invokespecial 94, 3) := by decide +kernel
theorem dX3_needWidth_20 : decode cX3_needWidth 20 = .ok (.athrow, 1) := by decide +kernel
theorem dX3_needWidth_21 : decode cX3_needWidth 21 = .ok (.return_, 1) := by decide +kernel
theorem dX3_needKind_0 : decode cX3_needKind 0 = .ok (.iload_n 0, 1) := by decide +kernel
theorem dX3_needKind_1 : decode cX3_needKind 1 = .ok (.ifCond .lt 8, 3) := by decide +kernel
theorem dX3_needKind_4 : decode cX3_needKind 4 = .ok (.iload_n 0, 1) := by decide +kernel
theorem dX3_needKind_5 : decode cX3_needKind 5 = .ok (.iload_n 1, 1) := by decide +kernel
theorem dX3_needKind_6 : decode cX3_needKind 6 = .ok (.if_icmp .le 13, 3) := by decide +kernel
theorem dX3_needKind_9 : decode cX3_needKind 9 = .ok (.new 90, 3) := by decide +kernel
theorem dX3_needKind_12 : decode cX3_needKind 12 = .ok (.dup, 1) := by decide +kernel
theorem dX3_needKind_13 : decode cX3_needKind 13 = .ok (.ldc 146, 2) := by decide +kernel
theorem dX3_needKind_15 : decode cX3_needKind 15 = .ok (.invokespecial 94, 3) := by decide +kernel
theorem dX3_needKind_18 : decode cX3_needKind 18 = .ok (.athrow, 1) := by decide +kernel
theorem dX3_needKind_19 : decode cX3_needKind 19 = .ok (.return_, 1) := by decide +kernel
theorem dX3_needSameWidth_0 : decode cX3_needSameWidth 0 = .ok (.aload_n 0, 1) := by decide +kernel
theorem dX3_needSameWidth_1 : decode cX3_needSameWidth 1 = .ok (.arraylength, 1) := by decide +kernel
theorem dX3_needSameWidth_2 : decode cX3_needSameWidth 2 = .ok (.aload_n 1, 1) := by decide +kernel
theorem dX3_needSameWidth_3 : decode cX3_needSameWidth 3 = .ok (.arraylength, 1) := by decide +kernel
theorem dX3_needSameWidth_4 : decode cX3_needSameWidth 4 = .ok (.if_icmp .eq 13, 3) := by decide +kernel
theorem dX3_needSameWidth_7 : decode cX3_needSameWidth 7 = .ok (.new 90, 3) := by decide +kernel
theorem dX3_needSameWidth_10 : decode cX3_needSameWidth 10 = .ok (.dup, 1) := by decide +kernel
theorem dX3_needSameWidth_11 : decode cX3_needSameWidth 11 = .ok (.ldc 148, 2) := by decide +kernel
theorem dX3_needSameWidth_13 : decode cX3_needSameWidth 13 = .ok (.invokespecial 94, 3) := by decide +kernel
theorem dX3_needSameWidth_16 : decode cX3_needSameWidth 16 = .ok (.athrow, 1) := by decide +kernel
theorem dX3_needSameWidth_17 : decode cX3_needSameWidth 17 = .ok (.return_, 1) := by decide +kernel
theorem dX3_needRoom_0 : decode cX3_needRoom 0 = .ok (.aload_n 0, 1) := by decide +kernel
theorem dX3_needRoom_1 : decode cX3_needRoom 1 = .ok (.getfield 24, 3) := by decide +kernel
theorem dX3_needRoom_4 : decode cX3_needRoom 4 = .ok (.invokevirtual 141, 3) := by decide +kernel
theorem dX3_needRoom_7 : decode cX3_needRoom 7 = .ok (.sipush 4000, 3) := by decide +kernel
theorem dX3_needRoom_10 : decode cX3_needRoom 10 = .ok (.if_icmp .ge 14, 3) := by decide +kernel
theorem dX3_needRoom_13 : decode cX3_needRoom 13 = .ok (.iload_n 1, 1) := by decide +kernel
theorem dX3_needRoom_14 : decode cX3_needRoom 14 = .ok (.ldc 150, 2) := by decide +kernel
theorem dX3_needRoom_16 : decode cX3_needRoom 16 = .ok (.aload_n 0, 1) := by decide +kernel
theorem dX3_needRoom_17 : decode cX3_needRoom 17 = .ok (.getfield 28, 3) := by decide +kernel
theorem dX3_needRoom_20 : decode cX3_needRoom 20 = .ok (.isub, 1) := by decide +kernel
theorem dX3_needRoom_21 : decode cX3_needRoom 21 = .ok (.if_icmp .le 13, 3) := by decide +kernel
theorem dX3_needRoom_24 : decode cX3_needRoom 24 = .ok (.new 151, 3) := by decide +kernel
theorem dX3_needRoom_27 : decode cX3_needRoom 27 = .ok (.dup, 1) := by decide +kernel
theorem dX3_needRoom_28 : decode cX3_needRoom 28 = .ok (.ldc 153, 2) := by decide +kernel
theorem dX3_needRoom_30 : decode cX3_needRoom 30 = .ok (.invokespecial 155, 3) := by decide +kernel
theorem dX3_needRoom_33 : decode cX3_needRoom 33 = .ok (.athrow, 1) := by decide +kernel
theorem dX3_needRoom_34 : decode cX3_needRoom 34 = .ok (.return_, 1) := by decide +kernel
theorem dX3_bitsOf_0 : decode cX3_bitsOf 0 = .ok (.iload_n 1, 1) := by decide +kernel
theorem dX3_bitsOf_1 : decode cX3_bitsOf 1 = .ok (.ifCond .lt 14, 3) := by decide +kernel
theorem dX3_bitsOf_4 : decode cX3_bitsOf 4 = .ok (.iload_n 1, 1) := by decide +kernel
theorem dX3_bitsOf_5 : decode cX3_bitsOf 5 = .ok (.aload_n 0, 1) := by decide +kernel
theorem dX3_bitsOf_6 : decode cX3_bitsOf 6 = .ok (.getfield 24, 3) := by decide +kernel
theorem dX3_bitsOf_9 : decode cX3_bitsOf 9 = .ok (.invokevirtual 141, 3) := by decide +kernel
theorem dX3_bitsOf_12 : decode cX3_bitsOf 12 = .ok (.if_icmp .lt 13, 3) := by decide +kernel
theorem dX3_bitsOf_15 : decode cX3_bitsOf 15 = .ok (.new 90, 3) := by decide +kernel
theorem dX3_bitsOf_18 : decode cX3_bitsOf 18 = .ok (.dup, 1) := by decide +kernel
theorem dX3_bitsOf_19 : decode cX3_bitsOf 19 = .ok (.ldc 156, 2) := by decide +kernel
theorem dX3_bitsOf_21 : decode cX3_bitsOf 21 = .ok (.invokespecial 94, 3) := by decide +kernel
theorem dX3_bitsOf_24 : decode cX3_bitsOf 24 = .ok (.athrow, 1) := by decide +kernel
theorem dX3_bitsOf_25 : decode cX3_bitsOf 25 = .ok (.aload_n 0, 1) := by decide +kernel
theorem dX3_bitsOf_26 : decode cX3_bitsOf 26 = .ok (.getfield 24, 3) := by decide +kernel
theorem dX3_bitsOf_29 : decode cX3_bitsOf 29 = .ok (.iload_n 1, 1) := by decide +kernel
theorem dX3_bitsOf_30 : decode cX3_bitsOf 30 = .ok (.invokevirtual 124, 3) := by decide +kernel
theorem dX3_bitsOf_33 : decode cX3_bitsOf 33 = .ok (.checkcast 45, 3) := by decide +kernel
theorem dX3_bitsOf_36 : decode cX3_bitsOf 36 = .ok (.getfield 158, 3) := by decide +kernel
theorem dX3_bitsOf_39 : decode cX3_bitsOf 39 = .ok (.areturn, 1) := by decide +kernel
theorem dX3_keep_0 : decode cX3_keep 0 = .ok (.aload_n 0, 1) := by decide +kernel
theorem dX3_keep_1 : decode cX3_keep 1 = .ok (.getfield 24, 3) := by decide +kernel
theorem dX3_keep_4 : decode cX3_keep 4 = .ok (.aload_n 1, 1) := by decide +kernel
theorem dX3_keep_5 : decode cX3_keep 5 = .ok (.invokevirtual 162, 3) := by decide +kernel
theorem dX3_keep_8 : decode cX3_keep 8 = .ok (.pop, 1) := by decide +kernel
theorem dX3_keep_9 : decode cX3_keep 9 = .ok (.aload_n 0, 1) := by decide +kernel
theorem dX3_keep_10 : decode cX3_keep 10 = .ok (.dup, 1) := by decide +kernel
theorem dX3_keep_11 : decode cX3_keep 11 = .ok (.getfield 28, 3) := by decide +kernel
theorem dX3_keep_14 : decode cX3_keep 14 = .ok (.iload_n 2, 1) := by decide +kernel
theorem dX3_keep_15 : decode cX3_keep 15 = .ok (.iadd, 1) := by decide +kernel
theorem dX3_keep_16 : decode cX3_keep 16 = .ok (.putfield 28, 3) := by decide +kernel
theorem dX3_keep_19 : decode cX3_keep 19 = .ok (.aload_n 0, 1) := by decide +kernel
theorem dX3_keep_20 : decode cX3_keep 20 = .ok (.getfield 24, 3) := by decide +kernel
theorem dX3_keep_23 : decode cX3_keep 23 = .ok (.invokevirtual 141, 3) := by decide +kernel
theorem dX3_keep_26 : decode cX3_keep 26 = .ok (.iconst 1, 1) := by decide +kernel
theorem dX3_keep_27 : decode cX3_keep 27 = .ok (.isub, 1) := by decide +kernel
theorem dX3_keep_28 : decode cX3_keep 28 = .ok (.ireturn, 1) := by decide +kernel
theorem dX3_weightOfTwo_0 : decode cX3_weightOfTwo 0 = .ok (.iload_n 0, 1) := by decide +kernel
theorem dX3_weightOfTwo_1 : decode cX3_weightOfTwo 1 = .ok (.tableswitch 95 0 9 #[55, 55, 55, 59, 59, 64, 71, 71, 83, 83], 55) := by decide +kernel
theorem dX3_weightOfTwo_56 : decode cX3_weightOfTwo 56 = .ok (.iconst 4, 1) := by decide +kernel
theorem dX3_weightOfTwo_57 : decode cX3_weightOfTwo 57 = .ok (.iload_n 1, 1) := by decide +kernel
theorem dX3_weightOfTwo_58 : decode cX3_weightOfTwo 58 = .ok (.imul, 1) := by decide +kernel
theorem dX3_weightOfTwo_59 : decode cX3_weightOfTwo 59 = .ok (.ireturn, 1) := by decide +kernel
theorem dX3_weightOfTwo_60 : decode cX3_weightOfTwo 60 = .ok (.bipush 10, 2) := by decide +kernel
theorem dX3_weightOfTwo_62 : decode cX3_weightOfTwo 62 = .ok (.iload_n 1, 1) := by decide +kernel
theorem dX3_weightOfTwo_63 : decode cX3_weightOfTwo 63 = .ok (.imul, 1) := by decide +kernel
theorem dX3_weightOfTwo_64 : decode cX3_weightOfTwo 64 = .ok (.ireturn, 1) := by decide +kernel
theorem dX3_weightOfTwo_65 : decode cX3_weightOfTwo 65 = .ok (.bipush 14, 2) := by decide +kernel
theorem dX3_weightOfTwo_67 : decode cX3_weightOfTwo 67 = .ok (.iload_n 1, 1) := by decide +kernel
theorem dX3_weightOfTwo_68 : decode cX3_weightOfTwo 68 = .ok (.imul, 1) := by decide +kernel
theorem dX3_weightOfTwo_69 : decode cX3_weightOfTwo 69 = .ok (.iload_n 1, 1) := by decide +kernel
theorem dX3_weightOfTwo_70 : decode cX3_weightOfTwo 70 = .ok (.imul, 1) := by decide +kernel
theorem dX3_weightOfTwo_71 : decode cX3_weightOfTwo 71 = .ok (.ireturn, 1) := by decide +kernel
theorem dX3_weightOfTwo_72 : decode cX3_weightOfTwo 72 = .ok (.bipush 16, 2) := by decide +kernel
theorem dX3_weightOfTwo_74 : decode cX3_weightOfTwo 74 = .ok (.iload_n 1, 1) := by decide +kernel
theorem dX3_weightOfTwo_75 : decode cX3_weightOfTwo 75 = .ok (.imul, 1) := by decide +kernel
theorem dX3_weightOfTwo_76 : decode cX3_weightOfTwo 76 = .ok (.iload_n 1, 1) := by decide +kernel
theorem dX3_weightOfTwo_77 : decode cX3_weightOfTwo 77 = .ok (.imul, 1) := by decide +kernel
theorem dX3_weightOfTwo_78 : decode cX3_weightOfTwo 78 = .ok (.bipush 32, 2) := by decide +kernel
theorem dX3_weightOfTwo_80 : decode cX3_weightOfTwo 80 = .ok (.iload_n 1, 1) := by decide +kernel
theorem dX3_weightOfTwo_81 : decode cX3_weightOfTwo 81 = .ok (.imul, 1) := by decide +kernel
theorem dX3_weightOfTwo_82 : decode cX3_weightOfTwo 82 = .ok (.iadd, 1) := by decide +kernel
theorem dX3_weightOfTwo_83 : decode cX3_weightOfTwo 83 = .ok (.ireturn, 1) := by decide +kernel
theorem dX3_weightOfTwo_84 : decode cX3_weightOfTwo 84 = .ok (.bipush 16, 2) := by decide +kernel
theorem dX3_weightOfTwo_86 : decode cX3_weightOfTwo 86 = .ok (.iload_n 1, 1) := by decide +kernel
theorem dX3_weightOfTwo_87 : decode cX3_weightOfTwo 87 = .ok (.imul, 1) := by decide +kernel
theorem dX3_weightOfTwo_88 : decode cX3_weightOfTwo 88 = .ok (.iload_n 1, 1) := by decide +kernel
theorem dX3_weightOfTwo_89 : decode cX3_weightOfTwo 89 = .ok (.imul, 1) := by decide +kernel
theorem dX3_weightOfTwo_90 : decode cX3_weightOfTwo 90 = .ok (.bipush 80, 2) := by decide +kernel
theorem dX3_weightOfTwo_92 : decode cX3_weightOfTwo 92 = .ok (.iload_n 1, 1) := by decide +kernel
theorem dX3_weightOfTwo_93 : decode cX3_weightOfTwo 93 = .ok (.imul, 1) := by decide +kernel
theorem dX3_weightOfTwo_94 : decode cX3_weightOfTwo 94 = .ok (.iadd, 1) := by decide +kernel
theorem dX3_weightOfTwo_95 : decode cX3_weightOfTwo 95 = .ok (.ireturn, 1) := by decide +kernel
theorem dX3_weightOfTwo_96 : decode cX3_weightOfTwo 96 = .ok (.bipush 30, 2) := by decide +kernel
theorem dX3_weightOfTwo_98 : decode cX3_weightOfTwo 98 = .ok (.iload_n 1, 1) := by decide +kernel
theorem dX3_weightOfTwo_99 : decode cX3_weightOfTwo 99 = .ok (.imul, 1) := by decide +kernel
theorem dX3_weightOfTwo_100 : decode cX3_weightOfTwo 100 = .ok (.ireturn, 1) := by decide +kernel
theorem dX3_reckonTwo_0 : decode cX3_reckonTwo 0 = .ok (.iload_n 1, 1) := by decide +kernel
theorem dX3_reckonTwo_1 : decode cX3_reckonTwo 1 = .ok (.tableswitch 207 0 11 #[63, 74, 85, 96, 110, 131, 141, 141, 162, 162, 183, 195], 63) := by decide +kernel
theorem dX3_reckonTwo_64 : decode cX3_reckonTwo 64 = .ok (.aload_n 0, 1) := by decide +kernel
theorem dX3_reckonTwo_65 : decode cX3_reckonTwo 65 = .ok (.getfield 10, 3) := by decide +kernel
theorem dX3_reckonTwo_68 : decode cX3_reckonTwo 68 = .ok (.iconst 1, 1) := by decide +kernel
theorem dX3_reckonTwo_69 : decode cX3_reckonTwo 69 = .ok (.aload_n 2, 1) := by decide +kernel
theorem dX3_reckonTwo_70 : decode cX3_reckonTwo 70 = .ok (.aload_n 3, 1) := by decide +kernel
theorem dX3_reckonTwo_71 : decode cX3_reckonTwo 71 = .ok (.invokevirtual 166, 3) := by decide +kernel
theorem dX3_reckonTwo_74 : decode cX3_reckonTwo 74 = .ok (.areturn, 1) := by decide +kernel
theorem dX3_reckonTwo_75 : decode cX3_reckonTwo 75 = .ok (.aload_n 0, 1) := by decide +kernel
theorem dX3_reckonTwo_76 : decode cX3_reckonTwo 76 = .ok (.getfield 10, 3) := by decide +kernel
theorem dX3_reckonTwo_79 : decode cX3_reckonTwo 79 = .ok (.iconst 2, 1) := by decide +kernel
theorem dX3_reckonTwo_80 : decode cX3_reckonTwo 80 = .ok (.aload_n 2, 1) := by decide +kernel
theorem dX3_reckonTwo_81 : decode cX3_reckonTwo 81 = .ok (.aload_n 3, 1) := by decide +kernel
theorem dX3_reckonTwo_82 : decode cX3_reckonTwo 82 = .ok (.invokevirtual 166, 3) := by decide +kernel
theorem dX3_reckonTwo_85 : decode cX3_reckonTwo 85 = .ok (.areturn, 1) := by decide +kernel
theorem dX3_reckonTwo_86 : decode cX3_reckonTwo 86 = .ok (.aload_n 0, 1) := by decide +kernel
theorem dX3_reckonTwo_87 : decode cX3_reckonTwo 87 = .ok (.getfield 10, 3) := by decide +kernel
theorem dX3_reckonTwo_90 : decode cX3_reckonTwo 90 = .ok (.iconst 3, 1) := by decide +kernel
theorem dX3_reckonTwo_91 : decode cX3_reckonTwo 91 = .ok (.aload_n 2, 1) := by decide +kernel
theorem dX3_reckonTwo_92 : decode cX3_reckonTwo 92 = .ok (.aload_n 3, 1) := by decide +kernel
theorem dX3_reckonTwo_93 : decode cX3_reckonTwo 93 = .ok (.invokevirtual 166, 3) := by decide +kernel
theorem dX3_reckonTwo_96 : decode cX3_reckonTwo 96 = .ok (.areturn, 1) := by decide +kernel
theorem dX3_reckonTwo_97 : decode cX3_reckonTwo 97 = .ok (.aload_n 0, 1) := by decide +kernel
theorem dX3_reckonTwo_98 : decode cX3_reckonTwo 98 = .ok (.getfield 10, 3) := by decide +kernel
theorem dX3_reckonTwo_101 : decode cX3_reckonTwo 101 = .ok (.aload_n 2, 1) := by decide +kernel
theorem dX3_reckonTwo_102 : decode cX3_reckonTwo 102 = .ok (.aload_n 3, 1) := by decide +kernel
theorem dX3_reckonTwo_103 : decode cX3_reckonTwo 103 = .ok (.iconst 0, 1) := by decide +kernel
theorem dX3_reckonTwo_104 : decode cX3_reckonTwo 104 = .ok (.invokevirtual 169, 3) := by decide +kernel
theorem dX3_reckonTwo_107 : decode cX3_reckonTwo 107 = .ok (.invokestatic 173, 3) := by decide +kernel
theorem dX3_reckonTwo_110 : decode cX3_reckonTwo 110 = .ok (.areturn, 1) := by decide +kernel
theorem dX3_reckonTwo_111 : decode cX3_reckonTwo 111 = .ok (.aload_n 0, 1) := by decide +kernel
theorem dX3_reckonTwo_112 : decode cX3_reckonTwo 112 = .ok (.getfield 10, 3) := by decide +kernel
theorem dX3_reckonTwo_115 : decode cX3_reckonTwo 115 = .ok (.aload_n 2, 1) := by decide +kernel
theorem dX3_reckonTwo_116 : decode cX3_reckonTwo 116 = .ok (.aload_n 0, 1) := by decide +kernel
theorem dX3_reckonTwo_117 : decode cX3_reckonTwo 117 = .ok (.getfield 10, 3) := by decide +kernel
theorem dX3_reckonTwo_120 : decode cX3_reckonTwo 120 = .ok (.aload_n 3, 1) := by decide +kernel
theorem dX3_reckonTwo_121 : decode cX3_reckonTwo 121 = .ok (.invokevirtual 66, 3) := by decide +kernel
theorem dX3_reckonTwo_124 : decode cX3_reckonTwo 124 = .ok (.iconst 1, 1) := by decide +kernel
theorem dX3_reckonTwo_125 : decode cX3_reckonTwo 125 = .ok (.invokevirtual 169, 3) := by decide +kernel
theorem dX3_reckonTwo_128 : decode cX3_reckonTwo 128 = .ok (.invokestatic 173, 3) := by decide +kernel
theorem dX3_reckonTwo_131 : decode cX3_reckonTwo 131 = .ok (.areturn, 1) := by decide +kernel
theorem dX3_reckonTwo_132 : decode cX3_reckonTwo 132 = .ok (.aload_n 0, 1) := by decide +kernel
theorem dX3_reckonTwo_133 : decode cX3_reckonTwo 133 = .ok (.getfield 10, 3) := by decide +kernel
theorem dX3_reckonTwo_136 : decode cX3_reckonTwo 136 = .ok (.aload_n 2, 1) := by decide +kernel
theorem dX3_reckonTwo_137 : decode cX3_reckonTwo 137 = .ok (.aload_n 3, 1) := by decide +kernel
theorem dX3_reckonTwo_138 : decode cX3_reckonTwo 138 = .ok (.invokevirtual 176, 3) := by decide +kernel
theorem dX3_reckonTwo_141 : decode cX3_reckonTwo 141 = .ok (.areturn, 1) := by decide +kernel
theorem dX3_reckonTwo_142 : decode cX3_reckonTwo 142 = .ok (.aload_n 0, 1) := by decide +kernel
theorem dX3_reckonTwo_143 : decode cX3_reckonTwo 143 = .ok (.getfield 10, 3) := by decide +kernel
theorem dX3_reckonTwo_146 : decode cX3_reckonTwo 146 = .ok (.aload_n 2, 1) := by decide +kernel
theorem dX3_reckonTwo_147 : decode cX3_reckonTwo 147 = .ok (.aload_n 3, 1) := by decide +kernel
theorem dX3_reckonTwo_148 : decode cX3_reckonTwo 148 = .ok (.iload_n 1, 1) := by decide +kernel
theorem dX3_reckonTwo_149 : decode cX3_reckonTwo 149 = .ok (.bipush 7, 2) := by decide +kernel
theorem dX3_reckonTwo_151 : decode cX3_reckonTwo 151 = .ok (.if_icmp .ne 7, 3) := by decide +kernel
theorem dX3_reckonTwo_154 : decode cX3_reckonTwo 154 = .ok (.iconst 1, 1) := by decide +kernel
theorem dX3_reckonTwo_155 : decode cX3_reckonTwo 155 = .ok (.goto 4, 3) := by decide +kernel
theorem dX3_reckonTwo_158 : decode cX3_reckonTwo 158 = .ok (.iconst 0, 1) := by decide +kernel
theorem dX3_reckonTwo_159 : decode cX3_reckonTwo 159 = .ok (.invokevirtual 180, 3) := by decide +kernel
theorem dX3_reckonTwo_162 : decode cX3_reckonTwo 162 = .ok (.areturn, 1) := by decide +kernel
theorem dX3_reckonTwo_163 : decode cX3_reckonTwo 163 = .ok (.aload_n 0, 1) := by decide +kernel
theorem dX3_reckonTwo_164 : decode cX3_reckonTwo 164 = .ok (.getfield 10, 3) := by decide +kernel
theorem dX3_reckonTwo_167 : decode cX3_reckonTwo 167 = .ok (.aload_n 2, 1) := by decide +kernel
theorem dX3_reckonTwo_168 : decode cX3_reckonTwo 168 = .ok (.aload_n 3, 1) := by decide +kernel
theorem dX3_reckonTwo_169 : decode cX3_reckonTwo 169 = .ok (.iload_n 1, 1) := by decide +kernel
theorem dX3_reckonTwo_170 : decode cX3_reckonTwo 170 = .ok (.bipush 9, 2) := by decide +kernel
theorem dX3_reckonTwo_172 : decode cX3_reckonTwo 172 = .ok (.if_icmp .ne 7, 3) := by decide +kernel
theorem dX3_reckonTwo_175 : decode cX3_reckonTwo 175 = .ok (.iconst 1, 1) := by decide +kernel
theorem dX3_reckonTwo_176 : decode cX3_reckonTwo 176 = .ok (.goto 4, 3) := by decide +kernel
theorem dX3_reckonTwo_179 : decode cX3_reckonTwo 179 = .ok (.iconst 0, 1) := by decide +kernel
theorem dX3_reckonTwo_180 : decode cX3_reckonTwo 180 = .ok (.invokevirtual 184, 3) := by decide +kernel
theorem dX3_reckonTwo_183 : decode cX3_reckonTwo 183 = .ok (.areturn, 1) := by decide +kernel
theorem dX3_reckonTwo_184 : decode cX3_reckonTwo 184 = .ok (.aload_n 0, 1) := by decide +kernel
theorem dX3_reckonTwo_185 : decode cX3_reckonTwo 185 = .ok (.getfield 10, 3) := by decide +kernel
theorem dX3_reckonTwo_188 : decode cX3_reckonTwo 188 = .ok (.aload_n 2, 1) := by decide +kernel
theorem dX3_reckonTwo_189 : decode cX3_reckonTwo 189 = .ok (.aload_n 3, 1) := by decide +kernel
theorem dX3_reckonTwo_190 : decode cX3_reckonTwo 190 = .ok (.iconst 1, 1) := by decide +kernel
theorem dX3_reckonTwo_191 : decode cX3_reckonTwo 191 = .ok (.iconst 0, 1) := by decide +kernel
theorem dX3_reckonTwo_192 : decode cX3_reckonTwo 192 = .ok (.invokevirtual 187, 3) := by decide +kernel
theorem dX3_reckonTwo_195 : decode cX3_reckonTwo 195 = .ok (.areturn, 1) := by decide +kernel
theorem dX3_reckonTwo_196 : decode cX3_reckonTwo 196 = .ok (.aload_n 0, 1) := by decide +kernel
theorem dX3_reckonTwo_197 : decode cX3_reckonTwo 197 = .ok (.getfield 10, 3) := by decide +kernel
theorem dX3_reckonTwo_200 : decode cX3_reckonTwo 200 = .ok (.aload_n 2, 1) := by decide +kernel
theorem dX3_reckonTwo_201 : decode cX3_reckonTwo 201 = .ok (.aload_n 3, 1) := by decide +kernel
theorem dX3_reckonTwo_202 : decode cX3_reckonTwo 202 = .ok (.iconst 0, 1) := by decide +kernel
theorem dX3_reckonTwo_203 : decode cX3_reckonTwo 203 = .ok (.iconst 0, 1) := by decide +kernel
theorem dX3_reckonTwo_204 : decode cX3_reckonTwo 204 = .ok (.invokevirtual 187, 3) := by decide +kernel
theorem dX3_reckonTwo_207 : decode cX3_reckonTwo 207 = .ok (.areturn, 1) := by decide +kernel
theorem dX3_reckonTwo_208 : decode cX3_reckonTwo 208 = .ok (.aload_n 0, 1) := by decide +kernel
theorem dX3_reckonTwo_209 : decode cX3_reckonTwo 209 = .ok (.getfield 10, 3) := by decide +kernel
theorem dX3_reckonTwo_212 : decode cX3_reckonTwo 212 = .ok (.aload_n 2, 1) := by decide +kernel
theorem dX3_reckonTwo_213 : decode cX3_reckonTwo 213 = .ok (.aload_n 3, 1) := by decide +kernel
theorem dX3_reckonTwo_214 : decode cX3_reckonTwo 214 = .ok (.iconst 0, 1) := by decide +kernel
theorem dX3_reckonTwo_215 : decode cX3_reckonTwo 215 = .ok (.aload_n 2, 1) := by decide +kernel
theorem dX3_reckonTwo_216 : decode cX3_reckonTwo 216 = .ok (.aload_n 2, 1) := by decide +kernel
theorem dX3_reckonTwo_217 : decode cX3_reckonTwo 217 = .ok (.arraylength, 1) := by decide +kernel
theorem dX3_reckonTwo_218 : decode cX3_reckonTwo 218 = .ok (.iconst 1, 1) := by decide +kernel
theorem dX3_reckonTwo_219 : decode cX3_reckonTwo 219 = .ok (.isub, 1) := by decide +kernel
theorem dX3_reckonTwo_220 : decode cX3_reckonTwo 220 = .ok (.iaload, 1) := by decide +kernel
theorem dX3_reckonTwo_221 : decode cX3_reckonTwo 221 = .ok (.invokevirtual 187, 3) := by decide +kernel
theorem dX3_reckonTwo_224 : decode cX3_reckonTwo 224 = .ok (.areturn, 1) := by decide +kernel
theorem dX3_reckonComparison_0 : decode cX3_reckonComparison 0 = .ok (.iload_n 1, 1) := by decide +kernel
theorem dX3_reckonComparison_1 : decode cX3_reckonComparison 1 = .ok (.tableswitch 99 0 3 #[31, 41, 58, 68], 31) := by decide +kernel
theorem dX3_reckonComparison_32 : decode cX3_reckonComparison 32 = .ok (.aload_n 0, 1) := by decide +kernel
theorem dX3_reckonComparison_33 : decode cX3_reckonComparison 33 = .ok (.getfield 10, 3) := by decide +kernel
theorem dX3_reckonComparison_36 : decode cX3_reckonComparison 36 = .ok (.aload_n 2, 1) := by decide +kernel
theorem dX3_reckonComparison_37 : decode cX3_reckonComparison 37 = .ok (.aload_n 3, 1) := by decide +kernel
theorem dX3_reckonComparison_38 : decode cX3_reckonComparison 38 = .ok (.invokevirtual 191, 3) := by decide +kernel
theorem dX3_reckonComparison_41 : decode cX3_reckonComparison 41 = .ok (.ireturn, 1) := by decide +kernel
theorem dX3_reckonComparison_42 : decode cX3_reckonComparison 42 = .ok (.aload_n 0, 1) := by decide +kernel
theorem dX3_reckonComparison_43 : decode cX3_reckonComparison 43 = .ok (.getfield 20, 3) := by decide +kernel
theorem dX3_reckonComparison_46 : decode cX3_reckonComparison 46 = .ok (.aload_n 0, 1) := by decide +kernel
theorem dX3_reckonComparison_47 : decode cX3_reckonComparison 47 = .ok (.getfield 10, 3) := by decide +kernel
theorem dX3_reckonComparison_50 : decode cX3_reckonComparison 50 = .ok (.aload_n 2, 1) := by decide +kernel
theorem dX3_reckonComparison_51 : decode cX3_reckonComparison 51 = .ok (.aload_n 3, 1) := by decide +kernel
theorem dX3_reckonComparison_52 : decode cX3_reckonComparison 52 = .ok (.invokevirtual 195, 3) := by decide +kernel
theorem dX3_reckonComparison_55 : decode cX3_reckonComparison 55 = .ok (.invokevirtual 198, 3) := by decide +kernel
theorem dX3_reckonComparison_58 : decode cX3_reckonComparison 58 = .ok (.ireturn, 1) := by decide +kernel
theorem dX3_reckonComparison_59 : decode cX3_reckonComparison 59 = .ok (.aload_n 0, 1) := by decide +kernel
theorem dX3_reckonComparison_60 : decode cX3_reckonComparison 60 = .ok (.getfield 10, 3) := by decide +kernel
theorem dX3_reckonComparison_63 : decode cX3_reckonComparison 63 = .ok (.aload_n 3, 1) := by decide +kernel
theorem dX3_reckonComparison_64 : decode cX3_reckonComparison 64 = .ok (.aload_n 2, 1) := by decide +kernel
theorem dX3_reckonComparison_65 : decode cX3_reckonComparison 65 = .ok (.invokevirtual 195, 3) := by decide +kernel
theorem dX3_reckonComparison_68 : decode cX3_reckonComparison 68 = .ok (.ireturn, 1) := by decide +kernel
theorem dX3_reckonComparison_69 : decode cX3_reckonComparison 69 = .ok (.aload_n 0, 1) := by decide +kernel
theorem dX3_reckonComparison_70 : decode cX3_reckonComparison 70 = .ok (.getfield 20, 3) := by decide +kernel
theorem dX3_reckonComparison_73 : decode cX3_reckonComparison 73 = .ok (.aload_n 0, 1) := by decide +kernel
theorem dX3_reckonComparison_74 : decode cX3_reckonComparison 74 = .ok (.getfield 10, 3) := by decide +kernel
theorem dX3_reckonComparison_77 : decode cX3_reckonComparison 77 = .ok (.aload_n 0, 1) := by decide +kernel
theorem dX3_reckonComparison_78 : decode cX3_reckonComparison 78 = .ok (.getfield 10, 3) := by decide +kernel
theorem dX3_reckonComparison_81 : decode cX3_reckonComparison 81 = .ok (.aload_n 2, 1) := by decide +kernel
theorem dX3_reckonComparison_82 : decode cX3_reckonComparison 82 = .ok (.invokevirtual 201, 3) := by decide +kernel
theorem dX3_reckonComparison_85 : decode cX3_reckonComparison 85 = .ok (.aload_n 0, 1) := by decide +kernel
theorem dX3_reckonComparison_86 : decode cX3_reckonComparison 86 = .ok (.getfield 10, 3) := by decide +kernel
theorem dX3_reckonComparison_89 : decode cX3_reckonComparison 89 = .ok (.aload_n 3, 1) := by decide +kernel
theorem dX3_reckonComparison_90 : decode cX3_reckonComparison 90 = .ok (.invokevirtual 201, 3) := by decide +kernel
theorem dX3_reckonComparison_93 : decode cX3_reckonComparison 93 = .ok (.invokevirtual 195, 3) := by decide +kernel
theorem dX3_reckonComparison_96 : decode cX3_reckonComparison 96 = .ok (.invokevirtual 198, 3) := by decide +kernel
theorem dX3_reckonComparison_99 : decode cX3_reckonComparison 99 = .ok (.ireturn, 1) := by decide +kernel
theorem dX3_reckonComparison_100 : decode cX3_reckonComparison 100 = .ok (.aload_n 0, 1) := by decide +kernel
theorem dX3_reckonComparison_101 : decode cX3_reckonComparison 101 = .ok (.getfield 10, 3) := by decide +kernel
theorem dX3_reckonComparison_104 : decode cX3_reckonComparison 104 = .ok (.aload_n 0, 1) := by decide +kernel
theorem dX3_reckonComparison_105 : decode cX3_reckonComparison 105 = .ok (.getfield 10, 3) := by decide +kernel
theorem dX3_reckonComparison_108 : decode cX3_reckonComparison 108 = .ok (.aload_n 3, 1) := by decide +kernel
theorem dX3_reckonComparison_109 : decode cX3_reckonComparison 109 = .ok (.invokevirtual 201, 3) := by decide +kernel
theorem dX3_reckonComparison_112 : decode cX3_reckonComparison 112 = .ok (.aload_n 0, 1) := by decide +kernel
theorem dX3_reckonComparison_113 : decode cX3_reckonComparison 113 = .ok (.getfield 10, 3) := by decide +kernel
theorem dX3_reckonComparison_116 : decode cX3_reckonComparison 116 = .ok (.aload_n 2, 1) := by decide +kernel
theorem dX3_reckonComparison_117 : decode cX3_reckonComparison 117 = .ok (.invokevirtual 201, 3) := by decide +kernel
theorem dX3_reckonComparison_120 : decode cX3_reckonComparison 120 = .ok (.invokevirtual 195, 3) := by decide +kernel
theorem dX3_reckonComparison_123 : decode cX3_reckonComparison 123 = .ok (.ireturn, 1) := by decide +kernel
