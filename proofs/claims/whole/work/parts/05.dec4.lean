theorem dX4_init_0 : decode cX4_init 0 = .ok (.aload_n 0, 1) := by decide +kernel
theorem dX4_init_1 : decode cX4_init 1 = .ok (.invokespecial 1, 3) := by decide +kernel
theorem dX4_init_4 : decode cX4_init 4 = .ok (.aload_n 0, 1) := by decide +kernel
theorem dX4_init_5 : decode cX4_init 5 = .ok (.sipush 4000, 3) := by decide +kernel
theorem dX4_init_8 : decode cX4_init 8 = .ok (.newarray .byte, 2) := by decide +kernel
theorem dX4_init_10 : decode cX4_init 10 = .ok (.putfield 7, 3) := by decide +kernel
theorem dX4_init_13 : decode cX4_init 13 = .ok (.aload_n 0, 1) := by decide +kernel
theorem dX4_init_14 : decode cX4_init 14 = .ok (.sipush 4000, 3) := by decide +kernel
theorem dX4_init_17 : decode cX4_init 17 = .ok (.newarray .int, 2) := by decide +kernel
theorem dX4_init_19 : decode cX4_init 19 = .ok (.putfield 13, 3) := by decide +kernel
theorem dX4_init_22 : decode cX4_init 22 = .ok (.aload_n 0, 1) := by decide +kernel
theorem dX4_init_23 : decode cX4_init 23 = .ok (.sipush 4000, 3) := by decide +kernel
theorem dX4_init_26 : decode cX4_init 26 = .ok (.newarray .int, 2) := by decide +kernel
theorem dX4_init_28 : decode cX4_init 28 = .ok (.putfield 17, 3) := by decide +kernel
theorem dX4_init_31 : decode cX4_init 31 = .ok (.aload_n 0, 1) := by decide +kernel
theorem dX4_init_32 : decode cX4_init 32 = .ok (.sipush 4000, 3) := by decide +kernel
theorem dX4_init_35 : decode cX4_init 35 = .ok (.newarray .int, 2) := by decide +kernel
theorem dX4_init_37 : decode cX4_init 37 = .ok (.putfield 20, 3) := by decide +kernel
theorem dX4_init_40 : decode cX4_init 40 = .ok (.aload_n 0, 1) := by decide +kernel
theorem dX4_init_41 : decode cX4_init 41 = .ok (.sipush 4000, 3) := by decide +kernel
theorem dX4_init_44 : decode cX4_init 44 = .ok (.newarray .int, 2) := by decide +kernel
theorem dX4_init_46 : decode cX4_init 46 = .ok (.putfield 23, 3) := by decide +kernel
theorem dX4_init_49 : decode cX4_init 49 = .ok (.aload_n 0, 1) := by decide +kernel
theorem dX4_init_50 : decode cX4_init 50 = .ok (.sipush 4000, 3) := by decide +kernel
theorem dX4_init_53 : decode cX4_init 53 = .ok (.newarray .long, 2) := by decide +kernel
theorem dX4_init_55 : decode cX4_init 55 = .ok (.putfield 26, 3) := by decide +kernel
theorem dX4_init_58 : decode cX4_init 58 = .ok (.return_, 1) := by decide +kernel
theorem dX4_thrown_0 : decode cX4_thrown 0 = .ok (.aload_n 0, 1) := by decide +kernel
theorem dX4_thrown_1 : decode cX4_thrown 1 = .ok (.getfield 30, 3) := by decide +kernel
theorem dX4_thrown_4 : decode cX4_thrown 4 = .ok (.ireturn, 1) := by decide +kernel
theorem dX4_is_0 : decode cX4_is 0 = .ok (.iload_n 1, 1) := by decide +kernel
theorem dX4_is_1 : decode cX4_is 1 = .ok (.ifCond .lt 15, 3) := by decide +kernel
theorem dX4_is_4 : decode cX4_is 4 = .ok (.iload_n 1, 1) := by decide +kernel
theorem dX4_is_5 : decode cX4_is 5 = .ok (.aload_n 0, 1) := by decide +kernel
theorem dX4_is_6 : decode cX4_is 6 = .ok (.getfield 34, 3) := by decide +kernel
theorem dX4_is_9 : decode cX4_is 9 = .ok (.if_icmp .ge 7, 3) := by decide +kernel
theorem dX4_is_12 : decode cX4_is 12 = .ok (.iconst 1, 1) := by decide +kernel
theorem dX4_is_13 : decode cX4_is 13 = .ok (.goto 4, 3) := by decide +kernel
theorem dX4_is_16 : decode cX4_is 16 = .ok (.iconst 0, 1) := by decide +kernel
theorem dX4_is_17 : decode cX4_is 17 = .ok (.ireturn, 1) := by decide +kernel
theorem dX4_areAlike_0 : decode cX4_areAlike 0 = .ok (.aload_n 0, 1) := by decide +kernel
theorem dX4_areAlike_1 : decode cX4_areAlike 1 = .ok (.iload_n 1, 1) := by decide +kernel
theorem dX4_areAlike_2 : decode cX4_areAlike 2 = .ok (.invokevirtual 37, 3) := by decide +kernel
theorem dX4_areAlike_5 : decode cX4_areAlike 5 = .ok (.ifCond .eq 30, 3) := by decide +kernel
theorem dX4_areAlike_8 : decode cX4_areAlike 8 = .ok (.aload_n 0, 1) := by decide +kernel
theorem dX4_areAlike_9 : decode cX4_areAlike 9 = .ok (.iload_n 2, 1) := by decide +kernel
theorem dX4_areAlike_10 : decode cX4_areAlike 10 = .ok (.invokevirtual 37, 3) := by decide +kernel
theorem dX4_areAlike_13 : decode cX4_areAlike 13 = .ok (.ifCond .eq 22, 3) := by decide +kernel
theorem dX4_areAlike_16 : decode cX4_areAlike 16 = .ok (.aload_n 0, 1) := by decide +kernel
theorem dX4_areAlike_17 : decode cX4_areAlike 17 = .ok (.getfield 23, 3) := by decide +kernel
theorem dX4_areAlike_20 : decode cX4_areAlike 20 = .ok (.iload_n 1, 1) := by decide +kernel
theorem dX4_areAlike_21 : decode cX4_areAlike 21 = .ok (.iaload, 1) := by decide +kernel
theorem dX4_areAlike_22 : decode cX4_areAlike 22 = .ok (.aload_n 0, 1) := by decide +kernel
theorem dX4_areAlike_23 : decode cX4_areAlike 23 = .ok (.getfield 23, 3) := by decide +kernel
theorem dX4_areAlike_26 : decode cX4_areAlike 26 = .ok (.iload_n 2, 1) := by decide +kernel
theorem dX4_areAlike_27 : decode cX4_areAlike 27 = .ok (.iaload, 1) := by decide +kernel
theorem dX4_areAlike_28 : decode cX4_areAlike 28 = .ok (.if_icmp .ne 7, 3) := by decide +kernel
theorem dX4_areAlike_31 : decode cX4_areAlike 31 = .ok (.iconst 1, 1) := by decide +kernel
theorem dX4_areAlike_32 : decode cX4_areAlike 32 = .ok (.goto 4, 3) := by decide +kernel
theorem dX4_areAlike_35 : decode cX4_areAlike 35 = .ok (.iconst 0, 1) := by decide +kernel
theorem dX4_areAlike_36 : decode cX4_areAlike 36 = .ok (.ireturn, 1) := by decide +kernel
theorem dX4_mask_0 : decode cX4_mask 0 = .ok (.iload_n 0, 1) := by decide +kernel
theorem dX4_mask_1 : decode cX4_mask 1 = .ok (.bipush 64, 2) := by decide +kernel
theorem dX4_mask_3 : decode cX4_mask 3 = .ok (.if_icmp .ne 9, 3) := by decide +kernel
theorem dX4_mask_6 : decode cX4_mask 6 = .ok (.ldc2_w 41, 3) := by decide +kernel
theorem dX4_mask_9 : decode cX4_mask 9 = .ok (.goto 8, 3) := by decide +kernel
theorem dX4_mask_12 : decode cX4_mask 12 = .ok (.lconst 1, 1) := by decide +kernel
theorem dX4_mask_13 : decode cX4_mask 13 = .ok (.iload_n 0, 1) := by decide +kernel
theorem dX4_mask_14 : decode cX4_mask 14 = .ok (.lshl, 1) := by decide +kernel
theorem dX4_mask_15 : decode cX4_mask 15 = .ok (.lconst 1, 1) := by decide +kernel
theorem dX4_mask_16 : decode cX4_mask 16 = .ok (.lsub, 1) := by decide +kernel
theorem dX4_mask_17 : decode cX4_mask 17 = .ok (.lreturn, 1) := by decide +kernel
theorem dX4_add_0 : decode cX4_add 0 = .ok (.aload_n 0, 1) := by decide +kernel
theorem dX4_add_1 : decode cX4_add 1 = .ok (.iload_n 1, 1) := by decide +kernel
theorem dX4_add_2 : decode cX4_add 2 = .ok (.ifCond .ne 7, 3) := by decide +kernel
theorem dX4_add_5 : decode cX4_add 5 = .ok (.iconst 1, 1) := by decide +kernel
theorem dX4_add_6 : decode cX4_add 6 = .ok (.goto 29, 3) := by decide +kernel
theorem dX4_add_9 : decode cX4_add 9 = .ok (.aload_n 0, 1) := by decide +kernel
theorem dX4_add_10 : decode cX4_add 10 = .ok (.getfield 34, 3) := by decide +kernel
theorem dX4_add_13 : decode cX4_add 13 = .ok (.sipush 4000, 3) := by decide +kernel
theorem dX4_add_16 : decode cX4_add 16 = .ok (.if_icmp .eq 14, 3) := by decide +kernel
theorem dX4_add_19 : decode cX4_add 19 = .ok (.aload_n 0, 1) := by decide +kernel
theorem dX4_add_20 : decode cX4_add 20 = .ok (.getfield 43, 3) := by decide +kernel
theorem dX4_add_23 : decode cX4_add 23 = .ok (.iload_n 2, 1) := by decide +kernel
theorem dX4_add_24 : decode cX4_add 24 = .ok (.iadd, 1) := by decide +kernel
theorem dX4_add_25 : decode cX4_add 25 = .ok (.ldc 46, 2) := by decide +kernel
theorem dX4_add_27 : decode cX4_add 27 = .ok (.if_icmp .le 7, 3) := by decide +kernel
theorem dX4_add_30 : decode cX4_add 30 = .ok (.iconst 2, 1) := by decide +kernel
theorem dX4_add_31 : decode cX4_add 31 = .ok (.goto 4, 3) := by decide +kernel
theorem dX4_add_34 : decode cX4_add 34 = .ok (.iconst 0, 1) := by decide +kernel
theorem dX4_add_35 : decode cX4_add 35 = .ok (.putfield 30, 3) := by decide +kernel
theorem dX4_add_38 : decode cX4_add 38 = .ok (.aload_n 0, 1) := by decide +kernel
theorem dX4_add_39 : decode cX4_add 39 = .ok (.getfield 30, 3) := by decide +kernel
theorem dX4_add_42 : decode cX4_add 42 = .ok (.ifCond .le 5, 3) := by decide +kernel
theorem dX4_add_45 : decode cX4_add 45 = .ok (.iconst 0, 1) := by decide +kernel
theorem dX4_add_46 : decode cX4_add 46 = .ok (.ireturn, 1) := by decide +kernel
theorem dX4_add_47 : decode cX4_add 47 = .ok (.aload_n 0, 1) := by decide +kernel
theorem dX4_add_48 : decode cX4_add 48 = .ok (.dup, 1) := by decide +kernel
theorem dX4_add_49 : decode cX4_add 49 = .ok (.getfield 43, 3) := by decide +kernel
theorem dX4_add_52 : decode cX4_add 52 = .ok (.iload_n 2, 1) := by decide +kernel
theorem dX4_add_53 : decode cX4_add 53 = .ok (.iadd, 1) := by decide +kernel
theorem dX4_add_54 : decode cX4_add 54 = .ok (.putfield 43, 3) := by decide +kernel
theorem dX4_add_57 : decode cX4_add 57 = .ok (.aload_n 0, 1) := by decide +kernel
theorem dX4_add_58 : decode cX4_add 58 = .ok (.getfield 7, 3) := by decide +kernel
theorem dX4_add_61 : decode cX4_add 61 = .ok (.aload_n 0, 1) := by decide +kernel
theorem dX4_add_62 : decode cX4_add 62 = .ok (.getfield 34, 3) := by decide +kernel
theorem dX4_add_65 : decode cX4_add 65 = .ok (.iload_n 3, 1) := by decide +kernel
theorem dX4_add_66 : decode cX4_add 66 = .ok (.i2b, 1) := by decide +kernel
theorem dX4_add_67 : decode cX4_add 67 = .ok (.bastore, 1) := by decide +kernel
theorem dX4_add_68 : decode cX4_add 68 = .ok (.aload_n 0, 1) := by decide +kernel
theorem dX4_add_69 : decode cX4_add 69 = .ok (.getfield 13, 3) := by decide +kernel
theorem dX4_add_72 : decode cX4_add 72 = .ok (.aload_n 0, 1) := by decide +kernel
theorem dX4_add_73 : decode cX4_add 73 = .ok (.getfield 34, 3) := by decide +kernel
theorem dX4_add_76 : decode cX4_add 76 = .ok (.iload 4, 2) := by decide +kernel
theorem dX4_add_78 : decode cX4_add 78 = .ok (.iastore, 1) := by decide +kernel
theorem dX4_add_79 : decode cX4_add 79 = .ok (.aload_n 0, 1) := by decide +kernel
theorem dX4_add_80 : decode cX4_add 80 = .ok (.getfield 17, 3) := by decide +kernel
theorem dX4_add_83 : decode cX4_add 83 = .ok (.aload_n 0, 1) := by decide +kernel
theorem dX4_add_84 : decode cX4_add 84 = .ok (.getfield 34, 3) := by decide +kernel
theorem dX4_add_87 : decode cX4_add 87 = .ok (.iload 5, 2) := by decide +kernel
theorem dX4_add_89 : decode cX4_add 89 = .ok (.iastore, 1) := by decide +kernel
theorem dX4_add_90 : decode cX4_add 90 = .ok (.aload_n 0, 1) := by decide +kernel
theorem dX4_add_91 : decode cX4_add 91 = .ok (.getfield 20, 3) := by decide +kernel
theorem dX4_add_94 : decode cX4_add 94 = .ok (.aload_n 0, 1) := by decide +kernel
theorem dX4_add_95 : decode cX4_add 95 = .ok (.getfield 34, 3) := by decide +kernel
theorem dX4_add_98 : decode cX4_add 98 = .ok (.iload 6, 2) := by decide +kernel
theorem dX4_add_100 : decode cX4_add 100 = .ok (.iastore, 1) := by decide +kernel
theorem dX4_add_101 : decode cX4_add 101 = .ok (.aload_n 0, 1) := by decide +kernel
theorem dX4_add_102 : decode cX4_add 102 = .ok (.getfield 23, 3) := by decide +kernel
theorem dX4_add_105 : decode cX4_add 105 = .ok (.aload_n 0, 1) := by decide +kernel
theorem dX4_add_106 : decode cX4_add 106 = .ok (.getfield 34, 3) := by decide +kernel
theorem dX4_add_109 : decode cX4_add 109 = .ok (.iload 7, 2) := by decide +kernel
theorem dX4_add_111 : decode cX4_add 111 = .ok (.iastore, 1) := by decide +kernel
theorem dX4_add_112 : decode cX4_add 112 = .ok (.aload_n 0, 1) := by decide +kernel
theorem dX4_add_113 : decode cX4_add 113 = .ok (.getfield 26, 3) := by decide +kernel
theorem dX4_add_116 : decode cX4_add 116 = .ok (.aload_n 0, 1) := by decide +kernel
theorem dX4_add_117 : decode cX4_add 117 = .ok (.getfield 34, 3) := by decide +kernel
theorem dX4_add_120 : decode cX4_add 120 = .ok (.lconst 0, 1) := by decide +kernel
theorem dX4_add_121 : decode cX4_add 121 = .ok (.lastore, 1) := by decide +kernel
theorem dX4_add_122 : decode cX4_add 122 = .ok (.aload_n 0, 1) := by decide +kernel
theorem dX4_add_123 : decode cX4_add 123 = .ok (.dup, 1) := by decide +kernel
theorem dX4_add_124 : decode cX4_add 124 = .ok (.getfield 34, 3) := by decide +kernel
theorem dX4_add_127 : decode cX4_add 127 = .ok (.iconst 1, 1) := by decide +kernel
theorem dX4_add_128 : decode cX4_add 128 = .ok (.iadd, 1) := by decide +kernel
theorem dX4_add_129 : decode cX4_add 129 = .ok (.putfield 34, 3) := by decide +kernel
theorem dX4_add_132 : decode cX4_add 132 = .ok (.aload_n 0, 1) := by decide +kernel
theorem dX4_add_133 : decode cX4_add 133 = .ok (.getfield 34, 3) := by decide +kernel
theorem dX4_add_136 : decode cX4_add 136 = .ok (.iconst 1, 1) := by decide +kernel
theorem dX4_add_137 : decode cX4_add 137 = .ok (.isub, 1) := by decide +kernel
theorem dX4_add_138 : decode cX4_add 138 = .ok (.ireturn, 1) := by decide +kernel
theorem dX4_input_0 : decode cX4_input 0 = .ok (.aload_n 0, 1) := by decide +kernel
theorem dX4_input_1 : decode cX4_input 1 = .ok (.iload_n 1, 1) := by decide +kernel
theorem dX4_input_2 : decode cX4_input 2 = .ok (.iconst 1, 1) := by decide +kernel
theorem dX4_input_3 : decode cX4_input 3 = .ok (.if_icmp .lt 13, 3) := by decide +kernel
theorem dX4_input_6 : decode cX4_input 6 = .ok (.iload_n 1, 1) := by decide +kernel
theorem dX4_input_7 : decode cX4_input 7 = .ok (.bipush 64, 2) := by decide +kernel
theorem dX4_input_9 : decode cX4_input 9 = .ok (.if_icmp .gt 7, 3) := by decide +kernel
theorem dX4_input_12 : decode cX4_input 12 = .ok (.iconst 1, 1) := by decide +kernel
theorem dX4_input_13 : decode cX4_input 13 = .ok (.goto 4, 3) := by decide +kernel
theorem dX4_input_16 : decode cX4_input 16 = .ok (.iconst 0, 1) := by decide +kernel
theorem dX4_input_17 : decode cX4_input 17 = .ok (.iload_n 1, 1) := by decide +kernel
theorem dX4_input_18 : decode cX4_input 18 = .ok (.iconst 0, 1) := by decide +kernel
theorem dX4_input_19 : decode cX4_input 19 = .ok (.iconst 0, 1) := by decide +kernel
theorem dX4_input_20 : decode cX4_input 20 = .ok (.iconst 0, 1) := by decide +kernel
theorem dX4_input_21 : decode cX4_input 21 = .ok (.iconst 0, 1) := by decide +kernel
theorem dX4_input_22 : decode cX4_input 22 = .ok (.iload_n 1, 1) := by decide +kernel
theorem dX4_input_23 : decode cX4_input 23 = .ok (.invokevirtual 47, 3) := by decide +kernel
theorem dX4_input_26 : decode cX4_input 26 = .ok (.ireturn, 1) := by decide +kernel
theorem dX4_constant_0 : decode cX4_constant 0 = .ok (.aload_n 0, 1) := by decide +kernel
theorem dX4_constant_1 : decode cX4_constant 1 = .ok (.iload_n 1, 1) := by decide +kernel
theorem dX4_constant_2 : decode cX4_constant 2 = .ok (.iconst 1, 1) := by decide +kernel
theorem dX4_constant_3 : decode cX4_constant 3 = .ok (.if_icmp .lt 13, 3) := by decide +kernel
theorem dX4_constant_6 : decode cX4_constant 6 = .ok (.iload_n 1, 1) := by decide +kernel
theorem dX4_constant_7 : decode cX4_constant 7 = .ok (.bipush 64, 2) := by decide +kernel
theorem dX4_constant_9 : decode cX4_constant 9 = .ok (.if_icmp .gt 7, 3) := by decide +kernel
theorem dX4_constant_12 : decode cX4_constant 12 = .ok (.iconst 1, 1) := by decide +kernel
theorem dX4_constant_13 : decode cX4_constant 13 = .ok (.goto 4, 3) := by decide +kernel
theorem dX4_constant_16 : decode cX4_constant 16 = .ok (.iconst 0, 1) := by decide +kernel
theorem dX4_constant_17 : decode cX4_constant 17 = .ok (.iload_n 1, 1) := by decide +kernel
theorem dX4_constant_18 : decode cX4_constant 18 = .ok (.iconst 1, 1) := by decide +kernel
theorem dX4_constant_19 : decode cX4_constant 19 = .ok (.iconst 0, 1) := by decide +kernel
theorem dX4_constant_20 : decode cX4_constant 20 = .ok (.iconst 0, 1) := by decide +kernel
theorem dX4_constant_21 : decode cX4_constant 21 = .ok (.iconst 0, 1) := by decide +kernel
theorem dX4_constant_22 : decode cX4_constant 22 = .ok (.iload_n 1, 1) := by decide +kernel
theorem dX4_constant_23 : decode cX4_constant 23 = .ok (.invokevirtual 47, 3) := by decide +kernel
theorem dX4_constant_26 : decode cX4_constant 26 = .ok (.istore 4, 2) := by decide +kernel
theorem dX4_constant_28 : decode cX4_constant 28 = .ok (.aload_n 0, 1) := by decide +kernel
theorem dX4_constant_29 : decode cX4_constant 29 = .ok (.getfield 30, 3) := by decide +kernel
theorem dX4_constant_32 : decode cX4_constant 32 = .ok (.ifCond .ne 16, 3) := by decide +kernel
theorem dX4_constant_35 : decode cX4_constant 35 = .ok (.aload_n 0, 1) := by decide +kernel
theorem dX4_constant_36 : decode cX4_constant 36 = .ok (.getfield 26, 3) := by decide +kernel
theorem dX4_constant_39 : decode cX4_constant 39 = .ok (.iload 4, 2) := by decide +kernel
theorem dX4_constant_41 : decode cX4_constant 41 = .ok (.lload_n 2, 1) := by decide +kernel
theorem dX4_constant_42 : decode cX4_constant 42 = .ok (.iload_n 1, 1) := by decide +kernel
theorem dX4_constant_43 : decode cX4_constant 43 = .ok (.invokestatic 51, 3) := by decide +kernel
theorem dX4_constant_46 : decode cX4_constant 46 = .ok (.land, 1) := by decide +kernel
theorem dX4_constant_47 : decode cX4_constant 47 = .ok (.lastore, 1) := by decide +kernel
theorem dX4_constant_48 : decode cX4_constant 48 = .ok (.iload 4, 2) := by decide +kernel
theorem dX4_constant_50 : decode cX4_constant 50 = .ok (.ireturn, 1) := by decide +kernel
theorem dX4_one_0 : decode cX4_one 0 = .ok (.iload_n 1, 1) := by decide +kernel
theorem dX4_one_1 : decode cX4_one 1 = .ok (.ifCond .eq 8, 3) := by decide +kernel
theorem dX4_one_4 : decode cX4_one 4 = .ok (.iload_n 1, 1) := by decide +kernel
theorem dX4_one_5 : decode cX4_one 5 = .ok (.iconst 1, 1) := by decide +kernel
theorem dX4_one_6 : decode cX4_one 6 = .ok (.if_icmp .ne 15, 3) := by decide +kernel
theorem dX4_one_9 : decode cX4_one 9 = .ok (.aload_n 0, 1) := by decide +kernel
theorem dX4_one_10 : decode cX4_one 10 = .ok (.iload_n 2, 1) := by decide +kernel
theorem dX4_one_11 : decode cX4_one 11 = .ok (.invokevirtual 37, 3) := by decide +kernel
theorem dX4_one_14 : decode cX4_one 14 = .ok (.ifCond .eq 7, 3) := by decide +kernel
theorem dX4_one_17 : decode cX4_one 17 = .ok (.iconst 1, 1) := by decide +kernel
theorem dX4_one_18 : decode cX4_one 18 = .ok (.goto 4, 3) := by decide +kernel
theorem dX4_one_21 : decode cX4_one 21 = .ok (.iconst 0, 1) := by decide +kernel
theorem dX4_one_22 : decode cX4_one 22 = .ok (.istore_n 3, 1) := by decide +kernel
theorem dX4_one_23 : decode cX4_one 23 = .ok (.iload_n 3, 1) := by decide +kernel
theorem dX4_one_24 : decode cX4_one 24 = .ok (.ifCond .eq 12, 3) := by decide +kernel
theorem dX4_one_27 : decode cX4_one 27 = .ok (.aload_n 0, 1) := by decide +kernel
theorem dX4_one_28 : decode cX4_one 28 = .ok (.getfield 23, 3) := by decide +kernel
theorem dX4_one_31 : decode cX4_one 31 = .ok (.iload_n 2, 1) := by decide +kernel
theorem dX4_one_32 : decode cX4_one 32 = .ok (.iaload, 1) := by decide +kernel
theorem dX4_one_33 : decode cX4_one 33 = .ok (.goto 4, 3) := by decide +kernel
theorem dX4_one_36 : decode cX4_one 36 = .ok (.iconst 1, 1) := by decide +kernel
theorem dX4_one_37 : decode cX4_one 37 = .ok (.istore 4, 2) := by decide +kernel
theorem dX4_one_39 : decode cX4_one 39 = .ok (.aload_n 0, 1) := by decide +kernel
theorem dX4_one_40 : decode cX4_one 40 = .ok (.iload_n 3, 1) := by decide +kernel
theorem dX4_one_41 : decode cX4_one 41 = .ok (.iload_n 1, 1) := by decide +kernel
theorem dX4_one_42 : decode cX4_one 42 = .ok (.ifCond .ne 8, 3) := by decide +kernel
theorem dX4_one_45 : decode cX4_one 45 = .ok (.iload 4, 2) := by decide +kernel
theorem dX4_one_47 : decode cX4_one 47 = .ok (.goto 8, 3) := by decide +kernel
theorem dX4_one_50 : decode cX4_one 50 = .ok (.bipush 10, 2) := by decide +kernel
theorem dX4_one_52 : decode cX4_one 52 = .ok (.iload 4, 2) := by decide +kernel
theorem dX4_one_54 : decode cX4_one 54 = .ok (.imul, 1) := by decide +kernel
theorem dX4_one_55 : decode cX4_one 55 = .ok (.bipush 10, 2) := by decide +kernel
theorem dX4_one_57 : decode cX4_one 57 = .ok (.iload_n 1, 1) := by decide +kernel
theorem dX4_one_58 : decode cX4_one 58 = .ok (.iadd, 1) := by decide +kernel
theorem dX4_one_59 : decode cX4_one 59 = .ok (.iload_n 2, 1) := by decide +kernel
theorem dX4_one_60 : decode cX4_one 60 = .ok (.iconst 0, 1) := by decide +kernel
theorem dX4_one_61 : decode cX4_one 61 = .ok (.iconst 0, 1) := by decide +kernel
theorem dX4_one_62 : decode cX4_one 62 = .ok (.iload 4, 2) := by decide +kernel
theorem dX4_one_64 : decode cX4_one 64 = .ok (.invokevirtual 47, 3) := by decide +kernel
theorem dX4_one_67 : decode cX4_one 67 = .ok (.ireturn, 1) := by decide +kernel
theorem dX4_heavy_0 : decode cX4_heavy 0 = .ok (.iload_n 0, 1) := by decide +kernel
theorem dX4_heavy_1 : decode cX4_heavy 1 = .ok (.tableswitch 95 0 9 #[55, 55, 55, 59, 59, 64, 71, 71, 83, 83], 55) := by decide +kernel
theorem dX4_heavy_56 : decode cX4_heavy 56 = .ok (.iconst 4, 1) := by decide +kernel
theorem dX4_heavy_57 : decode cX4_heavy 57 = .ok (.iload_n 1, 1) := by decide +kernel
theorem dX4_heavy_58 : decode cX4_heavy 58 = .ok (.imul, 1) := by decide +kernel
theorem dX4_heavy_59 : decode cX4_heavy 59 = .ok (.ireturn, 1) := by decide +kernel
theorem dX4_heavy_60 : decode cX4_heavy 60 = .ok (.bipush 10, 2) := by decide +kernel
theorem dX4_heavy_62 : decode cX4_heavy 62 = .ok (.iload_n 1, 1) := by decide +kernel
theorem dX4_heavy_63 : decode cX4_heavy 63 = .ok (.imul, 1) := by decide +kernel
theorem dX4_heavy_64 : decode cX4_heavy 64 = .ok (.ireturn, 1) := by decide +kernel
theorem dX4_heavy_65 : decode cX4_heavy 65 = .ok (.bipush 14, 2) := by decide +kernel
theorem dX4_heavy_67 : decode cX4_heavy 67 = .ok (.iload_n 1, 1) := by decide +kernel
theorem dX4_heavy_68 : decode cX4_heavy 68 = .ok (.imul, 1) := by decide +kernel
theorem dX4_heavy_69 : decode cX4_heavy 69 = .ok (.iload_n 1, 1) := by decide +kernel
theorem dX4_heavy_70 : decode cX4_heavy 70 = .ok (.imul, 1) := by decide +kernel
theorem dX4_heavy_71 : decode cX4_heavy 71 = .ok (.ireturn, 1) := by decide +kernel
theorem dX4_heavy_72 : decode cX4_heavy 72 = .ok (.bipush 16, 2) := by decide +kernel
theorem dX4_heavy_74 : decode cX4_heavy 74 = .ok (.iload_n 1, 1) := by decide +kernel
theorem dX4_heavy_75 : decode cX4_heavy 75 = .ok (.imul, 1) := by decide +kernel
theorem dX4_heavy_76 : decode cX4_heavy 76 = .ok (.iload_n 1, 1) := by decide +kernel
theorem dX4_heavy_77 : decode cX4_heavy 77 = .ok (.imul, 1) := by decide +kernel
theorem dX4_heavy_78 : decode cX4_heavy 78 = .ok (.bipush 32, 2) := by decide +kernel
theorem dX4_heavy_80 : decode cX4_heavy 80 = .ok (.iload_n 1, 1) := by decide +kernel
theorem dX4_heavy_81 : decode cX4_heavy 81 = .ok (.imul, 1) := by decide +kernel
theorem dX4_heavy_82 : decode cX4_heavy 82 = .ok (.iadd, 1) := by decide +kernel
theorem dX4_heavy_83 : decode cX4_heavy 83 = .ok (.ireturn, 1) := by decide +kernel
theorem dX4_heavy_84 : decode cX4_heavy 84 = .ok (.bipush 16, 2) := by decide +kernel
theorem dX4_heavy_86 : decode cX4_heavy 86 = .ok (.iload_n 1, 1) := by decide +kernel
theorem dX4_heavy_87 : decode cX4_heavy 87 = .ok (.imul, 1) := by decide +kernel
theorem dX4_heavy_88 : decode cX4_heavy 88 = .ok (.iload_n 1, 1) := by decide +kernel
theorem dX4_heavy_89 : decode cX4_heavy 89 = .ok (.imul, 1) := by decide +kernel
theorem dX4_heavy_90 : decode cX4_heavy 90 = .ok (.bipush 80, 2) := by decide +kernel
theorem dX4_heavy_92 : decode cX4_heavy 92 = .ok (.iload_n 1, 1) := by decide +kernel
theorem dX4_heavy_93 : decode cX4_heavy 93 = .ok (.imul, 1) := by decide +kernel
theorem dX4_heavy_94 : decode cX4_heavy 94 = .ok (.iadd, 1) := by decide +kernel
theorem dX4_heavy_95 : decode cX4_heavy 95 = .ok (.ireturn, 1) := by decide +kernel
theorem dX4_heavy_96 : decode cX4_heavy 96 = .ok (.bipush 30, 2) := by decide +kernel
theorem dX4_heavy_98 : decode cX4_heavy 98 = .ok (.iload_n 1, 1) := by decide +kernel
theorem dX4_heavy_99 : decode cX4_heavy 99 = .ok (.imul, 1) := by decide +kernel
theorem dX4_heavy_100 : decode cX4_heavy 100 = .ok (.ireturn, 1) := by decide +kernel
theorem dX4_two_0 : decode cX4_two 0 = .ok (.iload_n 1, 1) := by decide +kernel
theorem dX4_two_1 : decode cX4_two 1 = .ok (.ifCond .lt 22, 3) := by decide +kernel
theorem dX4_two_4 : decode cX4_two 4 = .ok (.iload_n 1, 1) := by decide +kernel
theorem dX4_two_5 : decode cX4_two 5 = .ok (.bipush 12, 2) := by decide +kernel
theorem dX4_two_7 : decode cX4_two 7 = .ok (.if_icmp .gt 16, 3) := by decide +kernel
theorem dX4_two_10 : decode cX4_two 10 = .ok (.aload_n 0, 1) := by decide +kernel
theorem dX4_two_11 : decode cX4_two 11 = .ok (.iload_n 2, 1) := by decide +kernel
theorem dX4_two_12 : decode cX4_two 12 = .ok (.iload_n 3, 1) := by decide +kernel
theorem dX4_two_13 : decode cX4_two 13 = .ok (.invokevirtual 55, 3) := by decide +kernel
theorem dX4_two_16 : decode cX4_two 16 = .ok (.ifCond .eq 7, 3) := by decide +kernel
theorem dX4_two_19 : decode cX4_two 19 = .ok (.iconst 1, 1) := by decide +kernel
theorem dX4_two_20 : decode cX4_two 20 = .ok (.goto 4, 3) := by decide +kernel
theorem dX4_two_23 : decode cX4_two 23 = .ok (.iconst 0, 1) := by decide +kernel
theorem dX4_two_24 : decode cX4_two 24 = .ok (.istore 4, 2) := by decide +kernel
theorem dX4_two_26 : decode cX4_two 26 = .ok (.iload 4, 2) := by decide +kernel
theorem dX4_two_28 : decode cX4_two 28 = .ok (.ifCond .eq 12, 3) := by decide +kernel
theorem dX4_two_31 : decode cX4_two 31 = .ok (.aload_n 0, 1) := by decide +kernel
theorem dX4_two_32 : decode cX4_two 32 = .ok (.getfield 23, 3) := by decide +kernel
theorem dX4_two_35 : decode cX4_two 35 = .ok (.iload_n 2, 1) := by decide +kernel
theorem dX4_two_36 : decode cX4_two 36 = .ok (.iaload, 1) := by decide +kernel
theorem dX4_two_37 : decode cX4_two 37 = .ok (.goto 4, 3) := by decide +kernel
theorem dX4_two_40 : decode cX4_two 40 = .ok (.iconst 1, 1) := by decide +kernel
theorem dX4_two_41 : decode cX4_two 41 = .ok (.istore 5, 2) := by decide +kernel
theorem dX4_two_43 : decode cX4_two 43 = .ok (.aload_n 0, 1) := by decide +kernel
theorem dX4_two_44 : decode cX4_two 44 = .ok (.iload 4, 2) := by decide +kernel
theorem dX4_two_46 : decode cX4_two 46 = .ok (.iload_n 1, 1) := by decide +kernel
theorem dX4_two_47 : decode cX4_two 47 = .ok (.iload 5, 2) := by decide +kernel
theorem dX4_two_49 : decode cX4_two 49 = .ok (.invokestatic 59, 3) := by decide +kernel
theorem dX4_two_52 : decode cX4_two 52 = .ok (.bipush 20, 2) := by decide +kernel
theorem dX4_two_54 : decode cX4_two 54 = .ok (.iload_n 1, 1) := by decide +kernel
theorem dX4_two_55 : decode cX4_two 55 = .ok (.iadd, 1) := by decide +kernel
theorem dX4_two_56 : decode cX4_two 56 = .ok (.iload_n 2, 1) := by decide +kernel
theorem dX4_two_57 : decode cX4_two 57 = .ok (.iload_n 3, 1) := by decide +kernel
theorem dX4_two_58 : decode cX4_two 58 = .ok (.iconst 0, 1) := by decide +kernel
theorem dX4_two_59 : decode cX4_two 59 = .ok (.iload 5, 2) := by decide +kernel
theorem dX4_two_61 : decode cX4_two 61 = .ok (.invokevirtual 47, 3) := by decide +kernel
theorem dX4_two_64 : decode cX4_two 64 = .ok (.ireturn, 1) := by decide +kernel
theorem dX4_compare_0 : decode cX4_compare 0 = .ok (.iload_n 1, 1) := by decide +kernel
theorem dX4_compare_1 : decode cX4_compare 1 = .ok (.ifCond .lt 21, 3) := by decide +kernel
theorem dX4_compare_4 : decode cX4_compare 4 = .ok (.iload_n 1, 1) := by decide +kernel
theorem dX4_compare_5 : decode cX4_compare 5 = .ok (.iconst 4, 1) := by decide +kernel
theorem dX4_compare_6 : decode cX4_compare 6 = .ok (.if_icmp .gt 16, 3) := by decide +kernel
theorem dX4_compare_9 : decode cX4_compare 9 = .ok (.aload_n 0, 1) := by decide +kernel
theorem dX4_compare_10 : decode cX4_compare 10 = .ok (.iload_n 2, 1) := by decide +kernel
theorem dX4_compare_11 : decode cX4_compare 11 = .ok (.iload_n 3, 1) := by decide +kernel
theorem dX4_compare_12 : decode cX4_compare 12 = .ok (.invokevirtual 55, 3) := by decide +kernel
theorem dX4_compare_15 : decode cX4_compare 15 = .ok (.ifCond .eq 7, 3) := by decide +kernel
theorem dX4_compare_18 : decode cX4_compare 18 = .ok (.iconst 1, 1) := by decide +kernel
theorem dX4_compare_19 : decode cX4_compare 19 = .ok (.goto 4, 3) := by decide +kernel
theorem dX4_compare_22 : decode cX4_compare 22 = .ok (.iconst 0, 1) := by decide +kernel
theorem dX4_compare_23 : decode cX4_compare 23 = .ok (.istore 4, 2) := by decide +kernel
theorem dX4_compare_25 : decode cX4_compare 25 = .ok (.iload 4, 2) := by decide +kernel
theorem dX4_compare_27 : decode cX4_compare 27 = .ok (.ifCond .eq 12, 3) := by decide +kernel
theorem dX4_compare_30 : decode cX4_compare 30 = .ok (.aload_n 0, 1) := by decide +kernel
theorem dX4_compare_31 : decode cX4_compare 31 = .ok (.getfield 23, 3) := by decide +kernel
theorem dX4_compare_34 : decode cX4_compare 34 = .ok (.iload_n 2, 1) := by decide +kernel
theorem dX4_compare_35 : decode cX4_compare 35 = .ok (.iaload, 1) := by decide +kernel
theorem dX4_compare_36 : decode cX4_compare 36 = .ok (.goto 4, 3) := by decide +kernel
theorem dX4_compare_39 : decode cX4_compare 39 = .ok (.iconst 1, 1) := by decide +kernel
theorem dX4_compare_40 : decode cX4_compare 40 = .ok (.istore 5, 2) := by decide +kernel
theorem dX4_compare_42 : decode cX4_compare 42 = .ok (.aload_n 0, 1) := by decide +kernel
theorem dX4_compare_43 : decode cX4_compare 43 = .ok (.iload 4, 2) := by decide +kernel
theorem dX4_compare_45 : decode cX4_compare 45 = .ok (.bipush 10, 2) := by decide +kernel
theorem dX4_compare_47 : decode cX4_compare 47 = .ok (.iload 5, 2) := by decide +kernel
theorem dX4_compare_49 : decode cX4_compare 49 = .ok (.imul, 1) := by decide +kernel
theorem dX4_compare_50 : decode cX4_compare 50 = .ok (.bipush 40, 2) := by decide +kernel
theorem dX4_compare_52 : decode cX4_compare 52 = .ok (.iload_n 1, 1) := by decide +kernel
theorem dX4_compare_53 : decode cX4_compare 53 = .ok (.iadd, 1) := by decide +kernel
theorem dX4_compare_54 : decode cX4_compare 54 = .ok (.iload_n 2, 1) := by decide +kernel
theorem dX4_compare_55 : decode cX4_compare 55 = .ok (.iload_n 3, 1) := by decide +kernel
theorem dX4_compare_56 : decode cX4_compare 56 = .ok (.iconst 0, 1) := by decide +kernel
theorem dX4_compare_57 : decode cX4_compare 57 = .ok (.iconst 1, 1) := by decide +kernel
theorem dX4_compare_58 : decode cX4_compare 58 = .ok (.invokevirtual 47, 3) := by decide +kernel
theorem dX4_compare_61 : decode cX4_compare 61 = .ok (.ireturn, 1) := by decide +kernel
theorem dX4_choose_0 : decode cX4_choose 0 = .ok (.aload_n 0, 1) := by decide +kernel
theorem dX4_choose_1 : decode cX4_choose 1 = .ok (.iload_n 1, 1) := by decide +kernel
theorem dX4_choose_2 : decode cX4_choose 2 = .ok (.invokevirtual 37, 3) := by decide +kernel
theorem dX4_choose_5 : decode cX4_choose 5 = .ok (.ifCond .eq 26, 3) := by decide +kernel
theorem dX4_choose_8 : decode cX4_choose 8 = .ok (.aload_n 0, 1) := by decide +kernel
theorem dX4_choose_9 : decode cX4_choose 9 = .ok (.getfield 23, 3) := by decide +kernel
theorem dX4_choose_12 : decode cX4_choose 12 = .ok (.iload_n 1, 1) := by decide +kernel
theorem dX4_choose_13 : decode cX4_choose 13 = .ok (.iaload, 1) := by decide +kernel
theorem dX4_choose_14 : decode cX4_choose 14 = .ok (.iconst 1, 1) := by decide +kernel
theorem dX4_choose_15 : decode cX4_choose 15 = .ok (.if_icmp .ne 16, 3) := by decide +kernel
theorem dX4_choose_18 : decode cX4_choose 18 = .ok (.aload_n 0, 1) := by decide +kernel
theorem dX4_choose_19 : decode cX4_choose 19 = .ok (.iload_n 2, 1) := by decide +kernel
theorem dX4_choose_20 : decode cX4_choose 20 = .ok (.iload_n 3, 1) := by decide +kernel
theorem dX4_choose_21 : decode cX4_choose 21 = .ok (.invokevirtual 55, 3) := by decide +kernel
theorem dX4_choose_24 : decode cX4_choose 24 = .ok (.ifCond .eq 7, 3) := by decide +kernel
theorem dX4_choose_27 : decode cX4_choose 27 = .ok (.iconst 1, 1) := by decide +kernel
theorem dX4_choose_28 : decode cX4_choose 28 = .ok (.goto 4, 3) := by decide +kernel
theorem dX4_choose_31 : decode cX4_choose 31 = .ok (.iconst 0, 1) := by decide +kernel
theorem dX4_choose_32 : decode cX4_choose 32 = .ok (.istore 4, 2) := by decide +kernel
theorem dX4_choose_34 : decode cX4_choose 34 = .ok (.iload 4, 2) := by decide +kernel
theorem dX4_choose_36 : decode cX4_choose 36 = .ok (.ifCond .eq 12, 3) := by decide +kernel
theorem dX4_choose_39 : decode cX4_choose 39 = .ok (.aload_n 0, 1) := by decide +kernel
theorem dX4_choose_40 : decode cX4_choose 40 = .ok (.getfield 23, 3) := by decide +kernel
theorem dX4_choose_43 : decode cX4_choose 43 = .ok (.iload_n 2, 1) := by decide +kernel
theorem dX4_choose_44 : decode cX4_choose 44 = .ok (.iaload, 1) := by decide +kernel
theorem dX4_choose_45 : decode cX4_choose 45 = .ok (.goto 4, 3) := by decide +kernel
theorem dX4_choose_48 : decode cX4_choose 48 = .ok (.iconst 1, 1) := by decide +kernel
theorem dX4_choose_49 : decode cX4_choose 49 = .ok (.istore 5, 2) := by decide +kernel
theorem dX4_choose_51 : decode cX4_choose 51 = .ok (.aload_n 0, 1) := by decide +kernel
theorem dX4_choose_52 : decode cX4_choose 52 = .ok (.iload 4, 2) := by decide +kernel
theorem dX4_choose_54 : decode cX4_choose 54 = .ok (.iconst 4, 1) := by decide +kernel
theorem dX4_choose_55 : decode cX4_choose 55 = .ok (.iload 5, 2) := by decide +kernel
theorem dX4_choose_57 : decode cX4_choose 57 = .ok (.imul, 1) := by decide +kernel
theorem dX4_choose_58 : decode cX4_choose 58 = .ok (.bipush 50, 2) := by decide +kernel
theorem dX4_choose_60 : decode cX4_choose 60 = .ok (.iload_n 2, 1) := by decide +kernel
theorem dX4_choose_61 : decode cX4_choose 61 = .ok (.iload_n 3, 1) := by decide +kernel
theorem dX4_choose_62 : decode cX4_choose 62 = .ok (.iload_n 1, 1) := by decide +kernel
theorem dX4_choose_63 : decode cX4_choose 63 = .ok (.iload 5, 2) := by decide +kernel
theorem dX4_choose_65 : decode cX4_choose 65 = .ok (.invokevirtual 47, 3) := by decide +kernel
theorem dX4_choose_68 : decode cX4_choose 68 = .ok (.ireturn, 1) := by decide +kernel
theorem dX4_concat_0 : decode cX4_concat 0 = .ok (.aload_n 0, 1) := by decide +kernel
theorem dX4_concat_1 : decode cX4_concat 1 = .ok (.iload_n 1, 1) := by decide +kernel
theorem dX4_concat_2 : decode cX4_concat 2 = .ok (.invokevirtual 37, 3) := by decide +kernel
theorem dX4_concat_5 : decode cX4_concat 5 = .ok (.ifCond .eq 33, 3) := by decide +kernel
theorem dX4_concat_8 : decode cX4_concat 8 = .ok (.aload_n 0, 1) := by decide +kernel
theorem dX4_concat_9 : decode cX4_concat 9 = .ok (.iload_n 2, 1) := by decide +kernel
theorem dX4_concat_10 : decode cX4_concat 10 = .ok (.invokevirtual 37, 3) := by decide +kernel
theorem dX4_concat_13 : decode cX4_concat 13 = .ok (.ifCond .eq 25, 3) := by decide +kernel
theorem dX4_concat_16 : decode cX4_concat 16 = .ok (.aload_n 0, 1) := by decide +kernel
theorem dX4_concat_17 : decode cX4_concat 17 = .ok (.getfield 23, 3) := by decide +kernel
theorem dX4_concat_20 : decode cX4_concat 20 = .ok (.iload_n 1, 1) := by decide +kernel
theorem dX4_concat_21 : decode cX4_concat 21 = .ok (.iaload, 1) := by decide +kernel
theorem dX4_concat_22 : decode cX4_concat 22 = .ok (.aload_n 0, 1) := by decide +kernel
theorem dX4_concat_23 : decode cX4_concat 23 = .ok (.getfield 23, 3) := by decide +kernel
theorem dX4_concat_26 : decode cX4_concat 26 = .ok (.iload_n 2, 1) := by decide +kernel
theorem dX4_concat_27 : decode cX4_concat 27 = .ok (.iaload, 1) := by decide +kernel
theorem dX4_concat_28 : decode cX4_concat 28 = .ok (.iadd, 1) := by decide +kernel
theorem dX4_concat_29 : decode cX4_concat 29 = .ok (.bipush 64, 2) := by decide +kernel
theorem dX4_concat_31 : decode cX4_concat 31 = .ok (.if_icmp .gt 7, 3) := by decide +kernel
theorem dX4_concat_34 : decode cX4_concat 34 = .ok (.iconst 1, 1) := by decide +kernel
theorem dX4_concat_35 : decode cX4_concat 35 = .ok (.goto 4, 3) := by decide +kernel
theorem dX4_concat_38 : decode cX4_concat 38 = .ok (.iconst 0, 1) := by decide +kernel
theorem dX4_concat_39 : decode cX4_concat 39 = .ok (.istore_n 3, 1) := by decide +kernel
theorem dX4_concat_40 : decode cX4_concat 40 = .ok (.iload_n 3, 1) := by decide +kernel
theorem dX4_concat_41 : decode cX4_concat 41 = .ok (.ifCond .eq 19, 3) := by decide +kernel
theorem dX4_concat_44 : decode cX4_concat 44 = .ok (.aload_n 0, 1) := by decide +kernel
theorem dX4_concat_45 : decode cX4_concat 45 = .ok (.getfield 23, 3) := by decide +kernel
theorem dX4_concat_48 : decode cX4_concat 48 = .ok (.iload_n 1, 1) := by decide +kernel
theorem dX4_concat_49 : decode cX4_concat 49 = .ok (.iaload, 1) := by decide +kernel
theorem dX4_concat_50 : decode cX4_concat 50 = .ok (.aload_n 0, 1) := by decide +kernel
theorem dX4_concat_51 : decode cX4_concat 51 = .ok (.getfield 23, 3) := by decide +kernel
theorem dX4_concat_54 : decode cX4_concat 54 = .ok (.iload_n 2, 1) := by decide +kernel
theorem dX4_concat_55 : decode cX4_concat 55 = .ok (.iaload, 1) := by decide +kernel
theorem dX4_concat_56 : decode cX4_concat 56 = .ok (.iadd, 1) := by decide +kernel
theorem dX4_concat_57 : decode cX4_concat 57 = .ok (.goto 4, 3) := by decide +kernel
theorem dX4_concat_60 : decode cX4_concat 60 = .ok (.iconst 1, 1) := by decide +kernel
theorem dX4_concat_61 : decode cX4_concat 61 = .ok (.istore 4, 2) := by decide +kernel
theorem dX4_concat_63 : decode cX4_concat 63 = .ok (.aload_n 0, 1) := by decide +kernel
theorem dX4_concat_64 : decode cX4_concat 64 = .ok (.iload_n 3, 1) := by decide +kernel
theorem dX4_concat_65 : decode cX4_concat 65 = .ok (.iload 4, 2) := by decide +kernel
theorem dX4_concat_67 : decode cX4_concat 67 = .ok (.bipush 51, 2) := by decide +kernel
theorem dX4_concat_69 : decode cX4_concat 69 = .ok (.iload_n 1, 1) := by decide +kernel
theorem dX4_concat_70 : decode cX4_concat 70 = .ok (.iload_n 2, 1) := by decide +kernel
theorem dX4_concat_71 : decode cX4_concat 71 = .ok (.iconst 0, 1) := by decide +kernel
theorem dX4_concat_72 : decode cX4_concat 72 = .ok (.iload 4, 2) := by decide +kernel
theorem dX4_concat_74 : decode cX4_concat 74 = .ok (.invokevirtual 47, 3) := by decide +kernel
theorem dX4_concat_77 : decode cX4_concat 77 = .ok (.ireturn, 1) := by decide +kernel
theorem dX4_extract_0 : decode cX4_extract 0 = .ok (.aload_n 0, 1) := by decide +kernel
theorem dX4_extract_1 : decode cX4_extract 1 = .ok (.iload_n 1, 1) := by decide +kernel
theorem dX4_extract_2 : decode cX4_extract 2 = .ok (.invokevirtual 37, 3) := by decide +kernel
theorem dX4_extract_5 : decode cX4_extract 5 = .ok (.ifCond .eq 26, 3) := by decide +kernel
theorem dX4_extract_8 : decode cX4_extract 8 = .ok (.iload_n 3, 1) := by decide +kernel
theorem dX4_extract_9 : decode cX4_extract 9 = .ok (.ifCond .lt 22, 3) := by decide +kernel
theorem dX4_extract_12 : decode cX4_extract 12 = .ok (.iload_n 2, 1) := by decide +kernel
theorem dX4_extract_13 : decode cX4_extract 13 = .ok (.iload_n 3, 1) := by decide +kernel
theorem dX4_extract_14 : decode cX4_extract 14 = .ok (.if_icmp .lt 17, 3) := by decide +kernel
theorem dX4_extract_17 : decode cX4_extract 17 = .ok (.iload_n 2, 1) := by decide +kernel
theorem dX4_extract_18 : decode cX4_extract 18 = .ok (.aload_n 0, 1) := by decide +kernel
theorem dX4_extract_19 : decode cX4_extract 19 = .ok (.getfield 23, 3) := by decide +kernel
theorem dX4_extract_22 : decode cX4_extract 22 = .ok (.iload_n 1, 1) := by decide +kernel
theorem dX4_extract_23 : decode cX4_extract 23 = .ok (.iaload, 1) := by decide +kernel
theorem dX4_extract_24 : decode cX4_extract 24 = .ok (.if_icmp .ge 7, 3) := by decide +kernel
theorem dX4_extract_27 : decode cX4_extract 27 = .ok (.iconst 1, 1) := by decide +kernel
theorem dX4_extract_28 : decode cX4_extract 28 = .ok (.goto 4, 3) := by decide +kernel
theorem dX4_extract_31 : decode cX4_extract 31 = .ok (.iconst 0, 1) := by decide +kernel
theorem dX4_extract_32 : decode cX4_extract 32 = .ok (.istore 4, 2) := by decide +kernel
theorem dX4_extract_34 : decode cX4_extract 34 = .ok (.iload 4, 2) := by decide +kernel
theorem dX4_extract_36 : decode cX4_extract 36 = .ok (.ifCond .eq 11, 3) := by decide +kernel
theorem dX4_extract_39 : decode cX4_extract 39 = .ok (.iload_n 2, 1) := by decide +kernel
theorem dX4_extract_40 : decode cX4_extract 40 = .ok (.iload_n 3, 1) := by decide +kernel
theorem dX4_extract_41 : decode cX4_extract 41 = .ok (.isub, 1) := by decide +kernel
theorem dX4_extract_42 : decode cX4_extract 42 = .ok (.iconst 1, 1) := by decide +kernel
theorem dX4_extract_43 : decode cX4_extract 43 = .ok (.iadd, 1) := by decide +kernel
theorem dX4_extract_44 : decode cX4_extract 44 = .ok (.goto 4, 3) := by decide +kernel
theorem dX4_extract_47 : decode cX4_extract 47 = .ok (.iconst 1, 1) := by decide +kernel
theorem dX4_extract_48 : decode cX4_extract 48 = .ok (.istore 5, 2) := by decide +kernel
theorem dX4_extract_50 : decode cX4_extract 50 = .ok (.aload_n 0, 1) := by decide +kernel
theorem dX4_extract_51 : decode cX4_extract 51 = .ok (.iload 4, 2) := by decide +kernel
theorem dX4_extract_53 : decode cX4_extract 53 = .ok (.iload 5, 2) := by decide +kernel
theorem dX4_extract_55 : decode cX4_extract 55 = .ok (.bipush 52, 2) := by decide +kernel
theorem dX4_extract_57 : decode cX4_extract 57 = .ok (.iload_n 1, 1) := by decide +kernel
theorem dX4_extract_58 : decode cX4_extract 58 = .ok (.iload_n 3, 1) := by decide +kernel
theorem dX4_extract_59 : decode cX4_extract 59 = .ok (.iconst 0, 1) := by decide +kernel
theorem dX4_extract_60 : decode cX4_extract 60 = .ok (.iload 5, 2) := by decide +kernel
theorem dX4_extract_62 : decode cX4_extract 62 = .ok (.invokevirtual 47, 3) := by decide +kernel
theorem dX4_extract_65 : decode cX4_extract 65 = .ok (.ireturn, 1) := by decide +kernel
theorem dX4_extend_0 : decode cX4_extend 0 = .ok (.aload_n 0, 1) := by decide +kernel
theorem dX4_extend_1 : decode cX4_extend 1 = .ok (.iload_n 1, 1) := by decide +kernel
theorem dX4_extend_2 : decode cX4_extend 2 = .ok (.invokevirtual 37, 3) := by decide +kernel
theorem dX4_extend_5 : decode cX4_extend 5 = .ok (.ifCond .eq 24, 3) := by decide +kernel
theorem dX4_extend_8 : decode cX4_extend 8 = .ok (.iload_n 2, 1) := by decide +kernel
theorem dX4_extend_9 : decode cX4_extend 9 = .ok (.ifCond .lt 20, 3) := by decide +kernel
theorem dX4_extend_12 : decode cX4_extend 12 = .ok (.iload_n 2, 1) := by decide +kernel
theorem dX4_extend_13 : decode cX4_extend 13 = .ok (.bipush 64, 2) := by decide +kernel
theorem dX4_extend_15 : decode cX4_extend 15 = .ok (.aload_n 0, 1) := by decide +kernel
theorem dX4_extend_16 : decode cX4_extend 16 = .ok (.getfield 23, 3) := by decide +kernel
theorem dX4_extend_19 : decode cX4_extend 19 = .ok (.iload_n 1, 1) := by decide +kernel
theorem dX4_extend_20 : decode cX4_extend 20 = .ok (.iaload, 1) := by decide +kernel
theorem dX4_extend_21 : decode cX4_extend 21 = .ok (.isub, 1) := by decide +kernel
theorem dX4_extend_22 : decode cX4_extend 22 = .ok (.if_icmp .gt 7, 3) := by decide +kernel
theorem dX4_extend_25 : decode cX4_extend 25 = .ok (.iconst 1, 1) := by decide +kernel
theorem dX4_extend_26 : decode cX4_extend 26 = .ok (.goto 4, 3) := by decide +kernel
theorem dX4_extend_29 : decode cX4_extend 29 = .ok (.iconst 0, 1) := by decide +kernel
theorem dX4_extend_30 : decode cX4_extend 30 = .ok (.istore 4, 2) := by decide +kernel
theorem dX4_extend_32 : decode cX4_extend 32 = .ok (.iload 4, 2) := by decide +kernel
theorem dX4_extend_34 : decode cX4_extend 34 = .ok (.ifCond .eq 14, 3) := by decide +kernel
theorem dX4_extend_37 : decode cX4_extend 37 = .ok (.aload_n 0, 1) := by decide +kernel
theorem dX4_extend_38 : decode cX4_extend 38 = .ok (.getfield 23, 3) := by decide +kernel
theorem dX4_extend_41 : decode cX4_extend 41 = .ok (.iload_n 1, 1) := by decide +kernel
theorem dX4_extend_42 : decode cX4_extend 42 = .ok (.iaload, 1) := by decide +kernel
theorem dX4_extend_43 : decode cX4_extend 43 = .ok (.iload_n 2, 1) := by decide +kernel
theorem dX4_extend_44 : decode cX4_extend 44 = .ok (.iadd, 1) := by decide +kernel
theorem dX4_extend_45 : decode cX4_extend 45 = .ok (.goto 4, 3) := by decide +kernel
theorem dX4_extend_48 : decode cX4_extend 48 = .ok (.iconst 1, 1) := by decide +kernel
theorem dX4_extend_49 : decode cX4_extend 49 = .ok (.istore 5, 2) := by decide +kernel
theorem dX4_extend_51 : decode cX4_extend 51 = .ok (.aload_n 0, 1) := by decide +kernel
theorem dX4_extend_52 : decode cX4_extend 52 = .ok (.iload 4, 2) := by decide +kernel
theorem dX4_extend_54 : decode cX4_extend 54 = .ok (.iload 5, 2) := by decide +kernel
theorem dX4_extend_56 : decode cX4_extend 56 = .ok (.iload_n 3, 1) := by decide +kernel
theorem dX4_extend_57 : decode cX4_extend 57 = .ok (.ifCond .eq 8, 3) := by decide +kernel
theorem dX4_extend_60 : decode cX4_extend 60 = .ok (.bipush 54, 2) := by decide +kernel
theorem dX4_extend_62 : decode cX4_extend 62 = .ok (.goto 5, 3) := by decide +kernel
theorem dX4_extend_65 : decode cX4_extend 65 = .ok (.bipush 53, 2) := by decide +kernel
theorem dX4_extend_67 : decode cX4_extend 67 = .ok (.iload_n 1, 1) := by decide +kernel
theorem dX4_extend_68 : decode cX4_extend 68 = .ok (.iconst 0, 1) := by decide +kernel
theorem dX4_extend_69 : decode cX4_extend 69 = .ok (.iconst 0, 1) := by decide +kernel
theorem dX4_extend_70 : decode cX4_extend 70 = .ok (.iload 5, 2) := by decide +kernel
theorem dX4_extend_72 : decode cX4_extend 72 = .ok (.invokevirtual 47, 3) := by decide +kernel
theorem dX4_extend_75 : decode cX4_extend 75 = .ok (.ireturn, 1) := by decide +kernel
theorem dX4_signed_0 : decode cX4_signed 0 = .ok (.lload_n 0, 1) := by decide +kernel
theorem dX4_signed_1 : decode cX4_signed 1 = .ok (.bipush 64, 2) := by decide +kernel
theorem dX4_signed_3 : decode cX4_signed 3 = .ok (.iload_n 2, 1) := by decide +kernel
theorem dX4_signed_4 : decode cX4_signed 4 = .ok (.isub, 1) := by decide +kernel
theorem dX4_signed_5 : decode cX4_signed 5 = .ok (.lshl, 1) := by decide +kernel
theorem dX4_signed_6 : decode cX4_signed 6 = .ok (.bipush 64, 2) := by decide +kernel
theorem dX4_signed_8 : decode cX4_signed 8 = .ok (.iload_n 2, 1) := by decide +kernel
theorem dX4_signed_9 : decode cX4_signed 9 = .ok (.isub, 1) := by decide +kernel
theorem dX4_signed_10 : decode cX4_signed 10 = .ok (.lshr, 1) := by decide +kernel
theorem dX4_signed_11 : decode cX4_signed 11 = .ok (.lreturn, 1) := by decide +kernel
theorem dX4_isBelow_0 : decode cX4_isBelow 0 = .ok (.lload_n 0, 1) := by decide +kernel
theorem dX4_isBelow_1 : decode cX4_isBelow 1 = .ok (.ldc2_w 63, 3) := by decide +kernel
theorem dX4_isBelow_4 : decode cX4_isBelow 4 = .ok (.lsub, 1) := by decide +kernel
theorem dX4_isBelow_5 : decode cX4_isBelow 5 = .ok (.lconst 1, 1) := by decide +kernel
theorem dX4_isBelow_6 : decode cX4_isBelow 6 = .ok (.lsub, 1) := by decide +kernel
theorem dX4_isBelow_7 : decode cX4_isBelow 7 = .ok (.lload_n 2, 1) := by decide +kernel
theorem dX4_isBelow_8 : decode cX4_isBelow 8 = .ok (.ldc2_w 63, 3) := by decide +kernel
theorem dX4_isBelow_11 : decode cX4_isBelow 11 = .ok (.lsub, 1) := by decide +kernel
theorem dX4_isBelow_12 : decode cX4_isBelow 12 = .ok (.lconst 1, 1) := by decide +kernel
theorem dX4_isBelow_13 : decode cX4_isBelow 13 = .ok (.lsub, 1) := by decide +kernel
theorem dX4_isBelow_14 : decode cX4_isBelow 14 = .ok (.lcmp, 1) := by decide +kernel
theorem dX4_isBelow_15 : decode cX4_isBelow 15 = .ok (.ifCond .ge 7, 3) := by decide +kernel
theorem dX4_isBelow_18 : decode cX4_isBelow 18 = .ok (.iconst 1, 1) := by decide +kernel
theorem dX4_isBelow_19 : decode cX4_isBelow 19 = .ok (.goto 4, 3) := by decide +kernel
theorem dX4_isBelow_22 : decode cX4_isBelow 22 = .ok (.iconst 0, 1) := by decide +kernel
theorem dX4_isBelow_23 : decode cX4_isBelow 23 = .ok (.ireturn, 1) := by decide +kernel
theorem dX4_divide_0 : decode cX4_divide 0 = .ok (.lconst 0, 1) := by decide +kernel
theorem dX4_divide_1 : decode cX4_divide 1 = .ok (.lstore 5, 2) := by decide +kernel
theorem dX4_divide_3 : decode cX4_divide 3 = .ok (.lconst 0, 1) := by decide +kernel
theorem dX4_divide_4 : decode cX4_divide 4 = .ok (.lstore 7, 2) := by decide +kernel
theorem dX4_divide_6 : decode cX4_divide 6 = .ok (.bipush 63, 2) := by decide +kernel
theorem dX4_divide_8 : decode cX4_divide 8 = .ok (.istore 9, 2) := by decide +kernel
theorem dX4_divide_10 : decode cX4_divide 10 = .ok (.iload 9, 2) := by decide +kernel
theorem dX4_divide_12 : decode cX4_divide 12 = .ok (.ifCond .lt 65, 3) := by decide +kernel
theorem dX4_divide_15 : decode cX4_divide 15 = .ok (.lload 7, 2) := by decide +kernel
theorem dX4_divide_17 : decode cX4_divide 17 = .ok (.lconst 0, 1) := by decide +kernel
theorem dX4_divide_18 : decode cX4_divide 18 = .ok (.lcmp, 1) := by decide +kernel
theorem dX4_divide_19 : decode cX4_divide 19 = .ok (.ifCond .ge 7, 3) := by decide +kernel
theorem dX4_divide_22 : decode cX4_divide 22 = .ok (.iconst 1, 1) := by decide +kernel
theorem dX4_divide_23 : decode cX4_divide 23 = .ok (.goto 4, 3) := by decide +kernel
theorem dX4_divide_26 : decode cX4_divide 26 = .ok (.iconst 0, 1) := by decide +kernel
theorem dX4_divide_27 : decode cX4_divide 27 = .ok (.istore 10, 2) := by decide +kernel
theorem dX4_divide_29 : decode cX4_divide 29 = .ok (.lload 7, 2) := by decide +kernel
theorem dX4_divide_31 : decode cX4_divide 31 = .ok (.iconst 1, 1) := by decide +kernel
theorem dX4_divide_32 : decode cX4_divide 32 = .ok (.lshl, 1) := by decide +kernel
theorem dX4_divide_33 : decode cX4_divide 33 = .ok (.lload_n 0, 1) := by decide +kernel
theorem dX4_divide_34 : decode cX4_divide 34 = .ok (.iload 9, 2) := by decide +kernel
theorem dX4_divide_36 : decode cX4_divide 36 = .ok (.lshr, 1) := by decide +kernel
theorem dX4_divide_37 : decode cX4_divide 37 = .ok (.lconst 1, 1) := by decide +kernel
theorem dX4_divide_38 : decode cX4_divide 38 = .ok (.land, 1) := by decide +kernel
theorem dX4_divide_39 : decode cX4_divide 39 = .ok (.lor, 1) := by decide +kernel
theorem dX4_divide_40 : decode cX4_divide 40 = .ok (.lstore 7, 2) := by decide +kernel
theorem dX4_divide_42 : decode cX4_divide 42 = .ok (.iload 10, 2) := by decide +kernel
theorem dX4_divide_44 : decode cX4_divide 44 = .ok (.ifCond .ne 12, 3) := by decide +kernel
theorem dX4_divide_47 : decode cX4_divide 47 = .ok (.lload 7, 2) := by decide +kernel
theorem dX4_divide_49 : decode cX4_divide 49 = .ok (.lload_n 2, 1) := by decide +kernel
theorem dX4_divide_50 : decode cX4_divide 50 = .ok (.invokestatic 65, 3) := by decide +kernel
theorem dX4_divide_53 : decode cX4_divide 53 = .ok (.ifCond .ne 18, 3) := by decide +kernel
theorem dX4_divide_56 : decode cX4_divide 56 = .ok (.lload 7, 2) := by decide +kernel
theorem dX4_divide_58 : decode cX4_divide 58 = .ok (.lload_n 2, 1) := by decide +kernel
theorem dX4_divide_59 : decode cX4_divide 59 = .ok (.lsub, 1) := by decide +kernel
theorem dX4_divide_60 : decode cX4_divide 60 = .ok (.lstore 7, 2) := by decide +kernel
theorem dX4_divide_62 : decode cX4_divide 62 = .ok (.lload 5, 2) := by decide +kernel
theorem dX4_divide_64 : decode cX4_divide 64 = .ok (.lconst 1, 1) := by decide +kernel
theorem dX4_divide_65 : decode cX4_divide 65 = .ok (.iload 9, 2) := by decide +kernel
theorem dX4_divide_67 : decode cX4_divide 67 = .ok (.lshl, 1) := by decide +kernel
theorem dX4_divide_68 : decode cX4_divide 68 = .ok (.lor, 1) := by decide +kernel
theorem dX4_divide_69 : decode cX4_divide 69 = .ok (.lstore 5, 2) := by decide +kernel
theorem dX4_divide_71 : decode cX4_divide 71 = .ok (.iinc 9 (-1), 3) := by decide +kernel
theorem dX4_divide_74 : decode cX4_divide 74 = .ok (.goto (-64), 3) := by decide +kernel
theorem dX4_divide_77 : decode cX4_divide 77 = .ok (.iload 4, 2) := by decide +kernel
theorem dX4_divide_79 : decode cX4_divide 79 = .ok (.ifCond .eq 8, 3) := by decide +kernel
theorem dX4_divide_82 : decode cX4_divide 82 = .ok (.lload 7, 2) := by decide +kernel
theorem dX4_divide_84 : decode cX4_divide 84 = .ok (.goto 5, 3) := by decide +kernel
theorem dX4_divide_87 : decode cX4_divide 87 = .ok (.lload 5, 2) := by decide +kernel
theorem dX4_divide_89 : decode cX4_divide 89 = .ok (.lreturn, 1) := by decide +kernel
theorem dX4_divided_0 : decode cX4_divided 0 = .ok (.iload_n 0, 1) := by decide +kernel
theorem dX4_divided_1 : decode cX4_divided 1 = .ok (.bipush 8, 2) := by decide +kernel
theorem dX4_divided_3 : decode cX4_divided 3 = .ok (.if_icmp .ge 42, 3) := by decide +kernel
theorem dX4_divided_6 : decode cX4_divided 6 = .ok (.lload_n 3, 1) := by decide +kernel
theorem dX4_divided_7 : decode cX4_divided 7 = .ok (.lconst 0, 1) := by decide +kernel
theorem dX4_divided_8 : decode cX4_divided 8 = .ok (.lcmp, 1) := by decide +kernel
theorem dX4_divided_9 : decode cX4_divided 9 = .ok (.ifCond .ne 19, 3) := by decide +kernel
theorem dX4_divided_12 : decode cX4_divided 12 = .ok (.iload_n 0, 1) := by decide +kernel
theorem dX4_divided_13 : decode cX4_divided 13 = .ok (.bipush 6, 2) := by decide +kernel
theorem dX4_divided_15 : decode cX4_divided 15 = .ok (.if_icmp .ne 9, 3) := by decide +kernel
theorem dX4_divided_18 : decode cX4_divided 18 = .ok (.ldc2_w 41, 3) := by decide +kernel
theorem dX4_divided_21 : decode cX4_divided 21 = .ok (.goto 23, 3) := by decide +kernel
theorem dX4_divided_24 : decode cX4_divided 24 = .ok (.lload_n 1, 1) := by decide +kernel
theorem dX4_divided_25 : decode cX4_divided 25 = .ok (.goto 19, 3) := by decide +kernel
theorem dX4_divided_28 : decode cX4_divided 28 = .ok (.lload_n 1, 1) := by decide +kernel
theorem dX4_divided_29 : decode cX4_divided 29 = .ok (.lload_n 3, 1) := by decide +kernel
theorem dX4_divided_30 : decode cX4_divided 30 = .ok (.iload_n 0, 1) := by decide +kernel
theorem dX4_divided_31 : decode cX4_divided 31 = .ok (.bipush 7, 2) := by decide +kernel
theorem dX4_divided_33 : decode cX4_divided 33 = .ok (.if_icmp .ne 7, 3) := by decide +kernel
theorem dX4_divided_36 : decode cX4_divided 36 = .ok (.iconst 1, 1) := by decide +kernel
theorem dX4_divided_37 : decode cX4_divided 37 = .ok (.goto 4, 3) := by decide +kernel
theorem dX4_divided_40 : decode cX4_divided 40 = .ok (.iconst 0, 1) := by decide +kernel
theorem dX4_divided_41 : decode cX4_divided 41 = .ok (.invokestatic 69, 3) := by decide +kernel
theorem dX4_divided_44 : decode cX4_divided 44 = .ok (.lreturn, 1) := by decide +kernel
theorem dX4_divided_45 : decode cX4_divided 45 = .ok (.lload_n 1, 1) := by decide +kernel
theorem dX4_divided_46 : decode cX4_divided 46 = .ok (.iload 5, 2) := by decide +kernel
theorem dX4_divided_48 : decode cX4_divided 48 = .ok (.invokestatic 73, 3) := by decide +kernel
theorem dX4_divided_51 : decode cX4_divided 51 = .ok (.lstore 6, 2) := by decide +kernel
theorem dX4_divided_53 : decode cX4_divided 53 = .ok (.lload_n 3, 1) := by decide +kernel
theorem dX4_divided_54 : decode cX4_divided 54 = .ok (.iload 5, 2) := by decide +kernel
theorem dX4_divided_56 : decode cX4_divided 56 = .ok (.invokestatic 73, 3) := by decide +kernel
theorem dX4_divided_59 : decode cX4_divided 59 = .ok (.lstore 8, 2) := by decide +kernel
theorem dX4_divided_61 : decode cX4_divided 61 = .ok (.lload 8, 2) := by decide +kernel
theorem dX4_divided_63 : decode cX4_divided 63 = .ok (.lconst 0, 1) := by decide +kernel
theorem dX4_divided_64 : decode cX4_divided 64 = .ok (.lcmp, 1) := by decide +kernel
theorem dX4_divided_65 : decode cX4_divided 65 = .ok (.ifCond .ne 29, 3) := by decide +kernel
theorem dX4_divided_68 : decode cX4_divided 68 = .ok (.iload_n 0, 1) := by decide +kernel
theorem dX4_divided_69 : decode cX4_divided 69 = .ok (.bipush 9, 2) := by decide +kernel
theorem dX4_divided_71 : decode cX4_divided 71 = .ok (.if_icmp .ne 8, 3) := by decide +kernel
theorem dX4_divided_74 : decode cX4_divided 74 = .ok (.lload 6, 2) := by decide +kernel
theorem dX4_divided_76 : decode cX4_divided 76 = .ok (.goto 17, 3) := by decide +kernel
theorem dX4_divided_79 : decode cX4_divided 79 = .ok (.lload 6, 2) := by decide +kernel
theorem dX4_divided_81 : decode cX4_divided 81 = .ok (.lconst 0, 1) := by decide +kernel
theorem dX4_divided_82 : decode cX4_divided 82 = .ok (.lcmp, 1) := by decide +kernel
theorem dX4_divided_83 : decode cX4_divided 83 = .ok (.ifCond .ge 7, 3) := by decide +kernel
theorem dX4_divided_86 : decode cX4_divided 86 = .ok (.lconst 1, 1) := by decide +kernel
theorem dX4_divided_87 : decode cX4_divided 87 = .ok (.goto 6, 3) := by decide +kernel
theorem dX4_divided_90 : decode cX4_divided 90 = .ok (.ldc2_w 41, 3) := by decide +kernel
theorem dX4_divided_93 : decode cX4_divided 93 = .ok (.lreturn, 1) := by decide +kernel
theorem dX4_divided_94 : decode cX4_divided 94 = .ok (.lload 6, 2) := by decide +kernel
theorem dX4_divided_96 : decode cX4_divided 96 = .ok (.lconst 0, 1) := by decide +kernel
theorem dX4_divided_97 : decode cX4_divided 97 = .ok (.lcmp, 1) := by decide +kernel
theorem dX4_divided_98 : decode cX4_divided 98 = .ok (.ifCond .ge 9, 3) := by decide +kernel
theorem dX4_divided_101 : decode cX4_divided 101 = .ok (.lload 6, 2) := by decide +kernel
theorem dX4_divided_103 : decode cX4_divided 103 = .ok (.lneg, 1) := by decide +kernel
theorem dX4_divided_104 : decode cX4_divided 104 = .ok (.goto 5, 3) := by decide +kernel
theorem dX4_divided_107 : decode cX4_divided 107 = .ok (.lload 6, 2) := by decide +kernel
theorem dX4_divided_109 : decode cX4_divided 109 = .ok (.lload 8, 2) := by decide +kernel
theorem dX4_divided_111 : decode cX4_divided 111 = .ok (.lconst 0, 1) := by decide +kernel
theorem dX4_divided_112 : decode cX4_divided 112 = .ok (.lcmp, 1) := by decide +kernel
theorem dX4_divided_113 : decode cX4_divided 113 = .ok (.ifCond .ge 9, 3) := by decide +kernel
theorem dX4_divided_116 : decode cX4_divided 116 = .ok (.lload 8, 2) := by decide +kernel
theorem dX4_divided_118 : decode cX4_divided 118 = .ok (.lneg, 1) := by decide +kernel
theorem dX4_divided_119 : decode cX4_divided 119 = .ok (.goto 5, 3) := by decide +kernel
theorem dX4_divided_122 : decode cX4_divided 122 = .ok (.lload 8, 2) := by decide +kernel
theorem dX4_divided_124 : decode cX4_divided 124 = .ok (.iload_n 0, 1) := by decide +kernel
theorem dX4_divided_125 : decode cX4_divided 125 = .ok (.bipush 9, 2) := by decide +kernel
theorem dX4_divided_127 : decode cX4_divided 127 = .ok (.if_icmp .ne 7, 3) := by decide +kernel
theorem dX4_divided_130 : decode cX4_divided 130 = .ok (.iconst 1, 1) := by decide +kernel
theorem dX4_divided_131 : decode cX4_divided 131 = .ok (.goto 4, 3) := by decide +kernel
theorem dX4_divided_134 : decode cX4_divided 134 = .ok (.iconst 0, 1) := by decide +kernel
theorem dX4_divided_135 : decode cX4_divided 135 = .ok (.invokestatic 69, 3) := by decide +kernel
theorem dX4_divided_138 : decode cX4_divided 138 = .ok (.lstore 10, 2) := by decide +kernel
theorem dX4_divided_140 : decode cX4_divided 140 = .ok (.iload_n 0, 1) := by decide +kernel
theorem dX4_divided_141 : decode cX4_divided 141 = .ok (.bipush 9, 2) := by decide +kernel
theorem dX4_divided_143 : decode cX4_divided 143 = .ok (.if_icmp .ne 18, 3) := by decide +kernel
theorem dX4_divided_146 : decode cX4_divided 146 = .ok (.lload 6, 2) := by decide +kernel
theorem dX4_divided_148 : decode cX4_divided 148 = .ok (.lconst 0, 1) := by decide +kernel
theorem dX4_divided_149 : decode cX4_divided 149 = .ok (.lcmp, 1) := by decide +kernel
theorem dX4_divided_150 : decode cX4_divided 150 = .ok (.ifCond .ge 7, 3) := by decide +kernel
theorem dX4_divided_153 : decode cX4_divided 153 = .ok (.iconst 1, 1) := by decide +kernel
theorem dX4_divided_154 : decode cX4_divided 154 = .ok (.goto 39, 3) := by decide +kernel
theorem dX4_divided_157 : decode cX4_divided 157 = .ok (.iconst 0, 1) := by decide +kernel
theorem dX4_divided_158 : decode cX4_divided 158 = .ok (.goto 35, 3) := by decide +kernel
theorem dX4_divided_161 : decode cX4_divided 161 = .ok (.lload 6, 2) := by decide +kernel
theorem dX4_divided_163 : decode cX4_divided 163 = .ok (.lconst 0, 1) := by decide +kernel
theorem dX4_divided_164 : decode cX4_divided 164 = .ok (.lcmp, 1) := by decide +kernel
theorem dX4_divided_165 : decode cX4_divided 165 = .ok (.ifCond .ge 7, 3) := by decide +kernel
theorem dX4_divided_168 : decode cX4_divided 168 = .ok (.iconst 1, 1) := by decide +kernel
theorem dX4_divided_169 : decode cX4_divided 169 = .ok (.goto 4, 3) := by decide +kernel
theorem dX4_divided_172 : decode cX4_divided 172 = .ok (.iconst 0, 1) := by decide +kernel
theorem dX4_divided_173 : decode cX4_divided 173 = .ok (.lload 8, 2) := by decide +kernel
theorem dX4_divided_175 : decode cX4_divided 175 = .ok (.lconst 0, 1) := by decide +kernel
theorem dX4_divided_176 : decode cX4_divided 176 = .ok (.lcmp, 1) := by decide +kernel
theorem dX4_divided_177 : decode cX4_divided 177 = .ok (.ifCond .ge 7, 3) := by decide +kernel
theorem dX4_divided_180 : decode cX4_divided 180 = .ok (.iconst 1, 1) := by decide +kernel
theorem dX4_divided_181 : decode cX4_divided 181 = .ok (.goto 4, 3) := by decide +kernel
theorem dX4_divided_184 : decode cX4_divided 184 = .ok (.iconst 0, 1) := by decide +kernel
theorem dX4_divided_185 : decode cX4_divided 185 = .ok (.if_icmp .eq 7, 3) := by decide +kernel
theorem dX4_divided_188 : decode cX4_divided 188 = .ok (.iconst 1, 1) := by decide +kernel
theorem dX4_divided_189 : decode cX4_divided 189 = .ok (.goto 4, 3) := by decide +kernel
theorem dX4_divided_192 : decode cX4_divided 192 = .ok (.iconst 0, 1) := by decide +kernel
theorem dX4_divided_193 : decode cX4_divided 193 = .ok (.istore 12, 2) := by decide +kernel
theorem dX4_divided_195 : decode cX4_divided 195 = .ok (.iload 12, 2) := by decide +kernel
theorem dX4_divided_197 : decode cX4_divided 197 = .ok (.ifCond .eq 9, 3) := by decide +kernel
theorem dX4_divided_200 : decode cX4_divided 200 = .ok (.lload 10, 2) := by decide +kernel
theorem dX4_divided_202 : decode cX4_divided 202 = .ok (.lneg, 1) := by decide +kernel
theorem dX4_divided_203 : decode cX4_divided 203 = .ok (.goto 5, 3) := by decide +kernel
theorem dX4_divided_206 : decode cX4_divided 206 = .ok (.lload 10, 2) := by decide +kernel
theorem dX4_divided_208 : decode cX4_divided 208 = .ok (.lreturn, 1) := by decide +kernel
theorem dX4_shifted_0 : decode cX4_shifted 0 = .ok (.lload_n 3, 1) := by decide +kernel
theorem dX4_shifted_1 : decode cX4_shifted 1 = .ok (.iload 5, 2) := by decide +kernel
theorem dX4_shifted_3 : decode cX4_shifted 3 = .ok (.i2l, 1) := by decide +kernel
theorem dX4_shifted_4 : decode cX4_shifted 4 = .ok (.invokestatic 65, 3) := by decide +kernel
theorem dX4_shifted_7 : decode cX4_shifted 7 = .ok (.istore 6, 2) := by decide +kernel
theorem dX4_shifted_9 : decode cX4_shifted 9 = .ok (.iload_n 0, 1) := by decide +kernel
theorem dX4_shifted_10 : decode cX4_shifted 10 = .ok (.bipush 12, 2) := by decide +kernel
theorem dX4_shifted_12 : decode cX4_shifted 12 = .ok (.if_icmp .ne 12, 3) := by decide +kernel
theorem dX4_shifted_15 : decode cX4_shifted 15 = .ok (.lload_n 1, 1) := by decide +kernel
theorem dX4_shifted_16 : decode cX4_shifted 16 = .ok (.iload 5, 2) := by decide +kernel
theorem dX4_shifted_18 : decode cX4_shifted 18 = .ok (.invokestatic 73, 3) := by decide +kernel
theorem dX4_shifted_21 : decode cX4_shifted 21 = .ok (.goto 4, 3) := by decide +kernel
theorem dX4_shifted_24 : decode cX4_shifted 24 = .ok (.lload_n 1, 1) := by decide +kernel
theorem dX4_shifted_25 : decode cX4_shifted 25 = .ok (.lstore 7, 2) := by decide +kernel
theorem dX4_shifted_27 : decode cX4_shifted 27 = .ok (.iload 6, 2) := by decide +kernel
theorem dX4_shifted_29 : decode cX4_shifted 29 = .ok (.ifCond .ne 24, 3) := by decide +kernel
theorem dX4_shifted_32 : decode cX4_shifted 32 = .ok (.iload_n 0, 1) := by decide +kernel
theorem dX4_shifted_33 : decode cX4_shifted 33 = .ok (.bipush 12, 2) := by decide +kernel
theorem dX4_shifted_35 : decode cX4_shifted 35 = .ok (.if_icmp .ne 16, 3) := by decide +kernel
theorem dX4_shifted_38 : decode cX4_shifted 38 = .ok (.lload 7, 2) := by decide +kernel
theorem dX4_shifted_40 : decode cX4_shifted 40 = .ok (.lconst 0, 1) := by decide +kernel
theorem dX4_shifted_41 : decode cX4_shifted 41 = .ok (.lcmp, 1) := by decide +kernel
theorem dX4_shifted_42 : decode cX4_shifted 42 = .ok (.ifCond .ge 9, 3) := by decide +kernel
theorem dX4_shifted_45 : decode cX4_shifted 45 = .ok (.ldc2_w 41, 3) := by decide +kernel
theorem dX4_shifted_48 : decode cX4_shifted 48 = .ok (.goto 4, 3) := by decide +kernel
theorem dX4_shifted_51 : decode cX4_shifted 51 = .ok (.lconst 0, 1) := by decide +kernel
theorem dX4_shifted_52 : decode cX4_shifted 52 = .ok (.lreturn, 1) := by decide +kernel
theorem dX4_shifted_53 : decode cX4_shifted 53 = .ok (.lload_n 3, 1) := by decide +kernel
theorem dX4_shifted_54 : decode cX4_shifted 54 = .ok (.l2i, 1) := by decide +kernel
theorem dX4_shifted_55 : decode cX4_shifted 55 = .ok (.istore 9, 2) := by decide +kernel
theorem dX4_shifted_57 : decode cX4_shifted 57 = .ok (.iload_n 0, 1) := by decide +kernel
theorem dX4_shifted_58 : decode cX4_shifted 58 = .ok (.bipush 10, 2) := by decide +kernel
theorem dX4_shifted_60 : decode cX4_shifted 60 = .ok (.if_icmp .ne 11, 3) := by decide +kernel
theorem dX4_shifted_63 : decode cX4_shifted 63 = .ok (.lload 7, 2) := by decide +kernel
theorem dX4_shifted_65 : decode cX4_shifted 65 = .ok (.iload 9, 2) := by decide +kernel
theorem dX4_shifted_67 : decode cX4_shifted 67 = .ok (.lshl, 1) := by decide +kernel
theorem dX4_shifted_68 : decode cX4_shifted 68 = .ok (.goto 22, 3) := by decide +kernel
theorem dX4_shifted_71 : decode cX4_shifted 71 = .ok (.iload_n 0, 1) := by decide +kernel
theorem dX4_shifted_72 : decode cX4_shifted 72 = .ok (.bipush 12, 2) := by decide +kernel
theorem dX4_shifted_74 : decode cX4_shifted 74 = .ok (.if_icmp .ne 11, 3) := by decide +kernel
theorem dX4_shifted_77 : decode cX4_shifted 77 = .ok (.lload 7, 2) := by decide +kernel
theorem dX4_shifted_79 : decode cX4_shifted 79 = .ok (.iload 9, 2) := by decide +kernel
theorem dX4_shifted_81 : decode cX4_shifted 81 = .ok (.lshr, 1) := by decide +kernel
theorem dX4_shifted_82 : decode cX4_shifted 82 = .ok (.goto 8, 3) := by decide +kernel
theorem dX4_shifted_85 : decode cX4_shifted 85 = .ok (.lload 7, 2) := by decide +kernel
theorem dX4_shifted_87 : decode cX4_shifted 87 = .ok (.iload 9, 2) := by decide +kernel
theorem dX4_shifted_89 : decode cX4_shifted 89 = .ok (.lushr, 1) := by decide +kernel
theorem dX4_shifted_90 : decode cX4_shifted 90 = .ok (.lreturn, 1) := by decide +kernel
theorem dX4_both_0 : decode cX4_both 0 = .ok (.iload_n 0, 1) := by decide +kernel
theorem dX4_both_1 : decode cX4_both 1 = .ok (.tableswitch 88 0 9 #[55, 59, 63, 67, 71, 75, 79, 79, 79, 79], 55) := by decide +kernel
theorem dX4_both_56 : decode cX4_both 56 = .ok (.lload_n 1, 1) := by decide +kernel
theorem dX4_both_57 : decode cX4_both 57 = .ok (.lload_n 3, 1) := by decide +kernel
theorem dX4_both_58 : decode cX4_both 58 = .ok (.land, 1) := by decide +kernel
theorem dX4_both_59 : decode cX4_both 59 = .ok (.lreturn, 1) := by decide +kernel
theorem dX4_both_60 : decode cX4_both 60 = .ok (.lload_n 1, 1) := by decide +kernel
theorem dX4_both_61 : decode cX4_both 61 = .ok (.lload_n 3, 1) := by decide +kernel
theorem dX4_both_62 : decode cX4_both 62 = .ok (.lor, 1) := by decide +kernel
theorem dX4_both_63 : decode cX4_both 63 = .ok (.lreturn, 1) := by decide +kernel
theorem dX4_both_64 : decode cX4_both 64 = .ok (.lload_n 1, 1) := by decide +kernel
theorem dX4_both_65 : decode cX4_both 65 = .ok (.lload_n 3, 1) := by decide +kernel
theorem dX4_both_66 : decode cX4_both 66 = .ok (.lxor, 1) := by decide +kernel
theorem dX4_both_67 : decode cX4_both 67 = .ok (.lreturn, 1) := by decide +kernel
theorem dX4_both_68 : decode cX4_both 68 = .ok (.lload_n 1, 1) := by decide +kernel
theorem dX4_both_69 : decode cX4_both 69 = .ok (.lload_n 3, 1) := by decide +kernel
theorem dX4_both_70 : decode cX4_both 70 = .ok (.ladd, 1) := by decide +kernel
theorem dX4_both_71 : decode cX4_both 71 = .ok (.lreturn, 1) := by decide +kernel
theorem dX4_both_72 : decode cX4_both 72 = .ok (.lload_n 1, 1) := by decide +kernel
theorem dX4_both_73 : decode cX4_both 73 = .ok (.lload_n 3, 1) := by decide +kernel
theorem dX4_both_74 : decode cX4_both 74 = .ok (.lsub, 1) := by decide +kernel
theorem dX4_both_75 : decode cX4_both 75 = .ok (.lreturn, 1) := by decide +kernel
theorem dX4_both_76 : decode cX4_both 76 = .ok (.lload_n 1, 1) := by decide +kernel
theorem dX4_both_77 : decode cX4_both 77 = .ok (.lload_n 3, 1) := by decide +kernel
theorem dX4_both_78 : decode cX4_both 78 = .ok (.lmul, 1) := by decide +kernel
theorem dX4_both_79 : decode cX4_both 79 = .ok (.lreturn, 1) := by decide +kernel
theorem dX4_both_80 : decode cX4_both 80 = .ok (.iload_n 0, 1) := by decide +kernel
theorem dX4_both_81 : decode cX4_both 81 = .ok (.lload_n 1, 1) := by decide +kernel
theorem dX4_both_82 : decode cX4_both 82 = .ok (.lload_n 3, 1) := by decide +kernel
theorem dX4_both_83 : decode cX4_both 83 = .ok (.iload 5, 2) := by decide +kernel
theorem dX4_both_85 : decode cX4_both 85 = .ok (.invokestatic 77, 3) := by decide +kernel
theorem dX4_both_88 : decode cX4_both 88 = .ok (.lreturn, 1) := by decide +kernel
theorem dX4_both_89 : decode cX4_both 89 = .ok (.iload_n 0, 1) := by decide +kernel
theorem dX4_both_90 : decode cX4_both 90 = .ok (.lload_n 1, 1) := by decide +kernel
theorem dX4_both_91 : decode cX4_both 91 = .ok (.lload_n 3, 1) := by decide +kernel
theorem dX4_both_92 : decode cX4_both 92 = .ok (.iload 5, 2) := by decide +kernel
theorem dX4_both_94 : decode cX4_both 94 = .ok (.invokestatic 81, 3) := by decide +kernel
theorem dX4_both_97 : decode cX4_both 97 = .ok (.lreturn, 1) := by decide +kernel
theorem dX4_holds_0 : decode cX4_holds 0 = .ok (.iload_n 0, 1) := by decide +kernel
theorem dX4_holds_1 : decode cX4_holds 1 = .ok (.tableswitch 85 0 3 #[31, 43, 49, 63], 31) := by decide +kernel
theorem dX4_holds_32 : decode cX4_holds 32 = .ok (.lload_n 1, 1) := by decide +kernel
theorem dX4_holds_33 : decode cX4_holds 33 = .ok (.lload_n 3, 1) := by decide +kernel
theorem dX4_holds_34 : decode cX4_holds 34 = .ok (.lcmp, 1) := by decide +kernel
theorem dX4_holds_35 : decode cX4_holds 35 = .ok (.ifCond .ne 7, 3) := by decide +kernel
theorem dX4_holds_38 : decode cX4_holds 38 = .ok (.iconst 1, 1) := by decide +kernel
theorem dX4_holds_39 : decode cX4_holds 39 = .ok (.goto 4, 3) := by decide +kernel
theorem dX4_holds_42 : decode cX4_holds 42 = .ok (.iconst 0, 1) := by decide +kernel
theorem dX4_holds_43 : decode cX4_holds 43 = .ok (.ireturn, 1) := by decide +kernel
theorem dX4_holds_44 : decode cX4_holds 44 = .ok (.lload_n 1, 1) := by decide +kernel
theorem dX4_holds_45 : decode cX4_holds 45 = .ok (.lload_n 3, 1) := by decide +kernel
theorem dX4_holds_46 : decode cX4_holds 46 = .ok (.invokestatic 65, 3) := by decide +kernel
theorem dX4_holds_49 : decode cX4_holds 49 = .ok (.ireturn, 1) := by decide +kernel
theorem dX4_holds_50 : decode cX4_holds 50 = .ok (.lload_n 3, 1) := by decide +kernel
theorem dX4_holds_51 : decode cX4_holds 51 = .ok (.lload_n 1, 1) := by decide +kernel
theorem dX4_holds_52 : decode cX4_holds 52 = .ok (.invokestatic 65, 3) := by decide +kernel
theorem dX4_holds_55 : decode cX4_holds 55 = .ok (.ifCond .ne 7, 3) := by decide +kernel
theorem dX4_holds_58 : decode cX4_holds 58 = .ok (.iconst 1, 1) := by decide +kernel
theorem dX4_holds_59 : decode cX4_holds 59 = .ok (.goto 4, 3) := by decide +kernel
theorem dX4_holds_62 : decode cX4_holds 62 = .ok (.iconst 0, 1) := by decide +kernel
theorem dX4_holds_63 : decode cX4_holds 63 = .ok (.ireturn, 1) := by decide +kernel
theorem dX4_holds_64 : decode cX4_holds 64 = .ok (.lload_n 1, 1) := by decide +kernel
theorem dX4_holds_65 : decode cX4_holds 65 = .ok (.iload 5, 2) := by decide +kernel
theorem dX4_holds_67 : decode cX4_holds 67 = .ok (.invokestatic 73, 3) := by decide +kernel
theorem dX4_holds_70 : decode cX4_holds 70 = .ok (.lload_n 3, 1) := by decide +kernel
theorem dX4_holds_71 : decode cX4_holds 71 = .ok (.iload 5, 2) := by decide +kernel
theorem dX4_holds_73 : decode cX4_holds 73 = .ok (.invokestatic 73, 3) := by decide +kernel
theorem dX4_holds_76 : decode cX4_holds 76 = .ok (.lcmp, 1) := by decide +kernel
theorem dX4_holds_77 : decode cX4_holds 77 = .ok (.ifCond .ge 7, 3) := by decide +kernel
theorem dX4_holds_80 : decode cX4_holds 80 = .ok (.iconst 1, 1) := by decide +kernel
theorem dX4_holds_81 : decode cX4_holds 81 = .ok (.goto 4, 3) := by decide +kernel
theorem dX4_holds_84 : decode cX4_holds 84 = .ok (.iconst 0, 1) := by decide +kernel
theorem dX4_holds_85 : decode cX4_holds 85 = .ok (.ireturn, 1) := by decide +kernel
theorem dX4_holds_86 : decode cX4_holds 86 = .ok (.lload_n 1, 1) := by decide +kernel
theorem dX4_holds_87 : decode cX4_holds 87 = .ok (.iload 5, 2) := by decide +kernel
theorem dX4_holds_89 : decode cX4_holds 89 = .ok (.invokestatic 73, 3) := by decide +kernel
theorem dX4_holds_92 : decode cX4_holds 92 = .ok (.lload_n 3, 1) := by decide +kernel
theorem dX4_holds_93 : decode cX4_holds 93 = .ok (.iload 5, 2) := by decide +kernel
theorem dX4_holds_95 : decode cX4_holds 95 = .ok (.invokestatic 73, 3) := by decide +kernel
theorem dX4_holds_98 : decode cX4_holds 98 = .ok (.lcmp, 1) := by decide +kernel
theorem dX4_holds_99 : decode cX4_holds 99 = .ok (.ifCond .gt 7, 3) := by decide +kernel
theorem dX4_holds_102 : decode cX4_holds 102 = .ok (.iconst 1, 1) := by decide +kernel
theorem dX4_holds_103 : decode cX4_holds 103 = .ok (.goto 4, 3) := by decide +kernel
theorem dX4_holds_106 : decode cX4_holds 106 = .ok (.iconst 0, 1) := by decide +kernel
theorem dX4_holds_107 : decode cX4_holds 107 = .ok (.ireturn, 1) := by decide +kernel
theorem dX4_reckon_0 : decode cX4_reckon 0 = .ok (.aload_n 0, 1) := by decide +kernel
theorem dX4_reckon_1 : decode cX4_reckon 1 = .ok (.getfield 7, 3) := by decide +kernel
theorem dX4_reckon_4 : decode cX4_reckon 4 = .ok (.iload_n 1, 1) := by decide +kernel
theorem dX4_reckon_5 : decode cX4_reckon 5 = .ok (.baload, 1) := by decide +kernel
theorem dX4_reckon_6 : decode cX4_reckon 6 = .ok (.istore_n 2, 1) := by decide +kernel
theorem dX4_reckon_7 : decode cX4_reckon 7 = .ok (.aload_n 0, 1) := by decide +kernel
theorem dX4_reckon_8 : decode cX4_reckon 8 = .ok (.getfield 26, 3) := by decide +kernel
theorem dX4_reckon_11 : decode cX4_reckon 11 = .ok (.aload_n 0, 1) := by decide +kernel
theorem dX4_reckon_12 : decode cX4_reckon 12 = .ok (.getfield 13, 3) := by decide +kernel
theorem dX4_reckon_15 : decode cX4_reckon 15 = .ok (.iload_n 1, 1) := by decide +kernel
theorem dX4_reckon_16 : decode cX4_reckon 16 = .ok (.iaload, 1) := by decide +kernel
theorem dX4_reckon_17 : decode cX4_reckon 17 = .ok (.laload, 1) := by decide +kernel
theorem dX4_reckon_18 : decode cX4_reckon 18 = .ok (.lstore_n 3, 1) := by decide +kernel
theorem dX4_reckon_19 : decode cX4_reckon 19 = .ok (.aload_n 0, 1) := by decide +kernel
theorem dX4_reckon_20 : decode cX4_reckon 20 = .ok (.getfield 23, 3) := by decide +kernel
theorem dX4_reckon_23 : decode cX4_reckon 23 = .ok (.aload_n 0, 1) := by decide +kernel
theorem dX4_reckon_24 : decode cX4_reckon 24 = .ok (.getfield 13, 3) := by decide +kernel
theorem dX4_reckon_27 : decode cX4_reckon 27 = .ok (.iload_n 1, 1) := by decide +kernel
theorem dX4_reckon_28 : decode cX4_reckon 28 = .ok (.iaload, 1) := by decide +kernel
theorem dX4_reckon_29 : decode cX4_reckon 29 = .ok (.iaload, 1) := by decide +kernel
theorem dX4_reckon_30 : decode cX4_reckon 30 = .ok (.istore 5, 2) := by decide +kernel
theorem dX4_reckon_32 : decode cX4_reckon 32 = .ok (.iload_n 2, 1) := by decide +kernel
theorem dX4_reckon_33 : decode cX4_reckon 33 = .ok (.iconst 2, 1) := by decide +kernel
theorem dX4_reckon_34 : decode cX4_reckon 34 = .ok (.if_icmp .ge 10, 3) := by decide +kernel
theorem dX4_reckon_37 : decode cX4_reckon 37 = .ok (.aload_n 0, 1) := by decide +kernel
theorem dX4_reckon_38 : decode cX4_reckon 38 = .ok (.getfield 26, 3) := by decide +kernel
theorem dX4_reckon_41 : decode cX4_reckon 41 = .ok (.iload_n 1, 1) := by decide +kernel
theorem dX4_reckon_42 : decode cX4_reckon 42 = .ok (.laload, 1) := by decide +kernel
theorem dX4_reckon_43 : decode cX4_reckon 43 = .ok (.lreturn, 1) := by decide +kernel
theorem dX4_reckon_44 : decode cX4_reckon 44 = .ok (.iload_n 2, 1) := by decide +kernel
theorem dX4_reckon_45 : decode cX4_reckon 45 = .ok (.bipush 20, 2) := by decide +kernel
theorem dX4_reckon_47 : decode cX4_reckon 47 = .ok (.if_icmp .ge 20, 3) := by decide +kernel
theorem dX4_reckon_50 : decode cX4_reckon 50 = .ok (.iload_n 2, 1) := by decide +kernel
theorem dX4_reckon_51 : decode cX4_reckon 51 = .ok (.bipush 10, 2) := by decide +kernel
theorem dX4_reckon_53 : decode cX4_reckon 53 = .ok (.if_icmp .ne 11, 3) := by decide +kernel
theorem dX4_reckon_56 : decode cX4_reckon 56 = .ok (.lload_n 3, 1) := by decide +kernel
theorem dX4_reckon_57 : decode cX4_reckon 57 = .ok (.ldc2_w 41, 3) := by decide +kernel
theorem dX4_reckon_60 : decode cX4_reckon 60 = .ok (.lxor, 1) := by decide +kernel
theorem dX4_reckon_61 : decode cX4_reckon 61 = .ok (.goto 5, 3) := by decide +kernel
theorem dX4_reckon_64 : decode cX4_reckon 64 = .ok (.lload_n 3, 1) := by decide +kernel
theorem dX4_reckon_65 : decode cX4_reckon 65 = .ok (.lneg, 1) := by decide +kernel
theorem dX4_reckon_66 : decode cX4_reckon 66 = .ok (.lreturn, 1) := by decide +kernel
theorem dX4_reckon_67 : decode cX4_reckon 67 = .ok (.iload_n 2, 1) := by decide +kernel
theorem dX4_reckon_68 : decode cX4_reckon 68 = .ok (.bipush 40, 2) := by decide +kernel
theorem dX4_reckon_70 : decode cX4_reckon 70 = .ok (.if_icmp .ge 25, 3) := by decide +kernel
theorem dX4_reckon_73 : decode cX4_reckon 73 = .ok (.iload_n 2, 1) := by decide +kernel
theorem dX4_reckon_74 : decode cX4_reckon 74 = .ok (.bipush 20, 2) := by decide +kernel
theorem dX4_reckon_76 : decode cX4_reckon 76 = .ok (.isub, 1) := by decide +kernel
theorem dX4_reckon_77 : decode cX4_reckon 77 = .ok (.lload_n 3, 1) := by decide +kernel
theorem dX4_reckon_78 : decode cX4_reckon 78 = .ok (.aload_n 0, 1) := by decide +kernel
theorem dX4_reckon_79 : decode cX4_reckon 79 = .ok (.getfield 26, 3) := by decide +kernel
theorem dX4_reckon_82 : decode cX4_reckon 82 = .ok (.aload_n 0, 1) := by decide +kernel
theorem dX4_reckon_83 : decode cX4_reckon 83 = .ok (.getfield 17, 3) := by decide +kernel
theorem dX4_reckon_86 : decode cX4_reckon 86 = .ok (.iload_n 1, 1) := by decide +kernel
theorem dX4_reckon_87 : decode cX4_reckon 87 = .ok (.iaload, 1) := by decide +kernel
theorem dX4_reckon_88 : decode cX4_reckon 88 = .ok (.laload, 1) := by decide +kernel
theorem dX4_reckon_89 : decode cX4_reckon 89 = .ok (.iload 5, 2) := by decide +kernel
theorem dX4_reckon_91 : decode cX4_reckon 91 = .ok (.invokestatic 84, 3) := by decide +kernel
theorem dX4_reckon_94 : decode cX4_reckon 94 = .ok (.lreturn, 1) := by decide +kernel
theorem dX4_reckon_95 : decode cX4_reckon 95 = .ok (.iload_n 2, 1) := by decide +kernel
theorem dX4_reckon_96 : decode cX4_reckon 96 = .ok (.bipush 50, 2) := by decide +kernel
theorem dX4_reckon_98 : decode cX4_reckon 98 = .ok (.if_icmp .ge 33, 3) := by decide +kernel
theorem dX4_reckon_101 : decode cX4_reckon 101 = .ok (.iload_n 2, 1) := by decide +kernel
theorem dX4_reckon_102 : decode cX4_reckon 102 = .ok (.bipush 40, 2) := by decide +kernel
theorem dX4_reckon_104 : decode cX4_reckon 104 = .ok (.isub, 1) := by decide +kernel
theorem dX4_reckon_105 : decode cX4_reckon 105 = .ok (.lload_n 3, 1) := by decide +kernel
theorem dX4_reckon_106 : decode cX4_reckon 106 = .ok (.aload_n 0, 1) := by decide +kernel
theorem dX4_reckon_107 : decode cX4_reckon 107 = .ok (.getfield 26, 3) := by decide +kernel
theorem dX4_reckon_110 : decode cX4_reckon 110 = .ok (.aload_n 0, 1) := by decide +kernel
theorem dX4_reckon_111 : decode cX4_reckon 111 = .ok (.getfield 17, 3) := by decide +kernel
theorem dX4_reckon_114 : decode cX4_reckon 114 = .ok (.iload_n 1, 1) := by decide +kernel
theorem dX4_reckon_115 : decode cX4_reckon 115 = .ok (.iaload, 1) := by decide +kernel
theorem dX4_reckon_116 : decode cX4_reckon 116 = .ok (.laload, 1) := by decide +kernel
theorem dX4_reckon_117 : decode cX4_reckon 117 = .ok (.iload 5, 2) := by decide +kernel
theorem dX4_reckon_119 : decode cX4_reckon 119 = .ok (.invokestatic 87, 3) := by decide +kernel
theorem dX4_reckon_122 : decode cX4_reckon 122 = .ok (.ifCond .eq 7, 3) := by decide +kernel
theorem dX4_reckon_125 : decode cX4_reckon 125 = .ok (.lconst 1, 1) := by decide +kernel
theorem dX4_reckon_126 : decode cX4_reckon 126 = .ok (.goto 4, 3) := by decide +kernel
theorem dX4_reckon_129 : decode cX4_reckon 129 = .ok (.lconst 0, 1) := by decide +kernel
theorem dX4_reckon_130 : decode cX4_reckon 130 = .ok (.lreturn, 1) := by decide +kernel
theorem dX4_reckon_131 : decode cX4_reckon 131 = .ok (.iload_n 2, 1) := by decide +kernel
theorem dX4_reckon_132 : decode cX4_reckon 132 = .ok (.tableswitch 99 50 53 #[32, 64, 88, 97], 32) := by decide +kernel
theorem dX4_reckon_164 : decode cX4_reckon 164 = .ok (.aload_n 0, 1) := by decide +kernel
theorem dX4_reckon_165 : decode cX4_reckon 165 = .ok (.getfield 26, 3) := by decide +kernel
theorem dX4_reckon_168 : decode cX4_reckon 168 = .ok (.aload_n 0, 1) := by decide +kernel
theorem dX4_reckon_169 : decode cX4_reckon 169 = .ok (.getfield 20, 3) := by decide +kernel
theorem dX4_reckon_172 : decode cX4_reckon 172 = .ok (.iload_n 1, 1) := by decide +kernel
theorem dX4_reckon_173 : decode cX4_reckon 173 = .ok (.iaload, 1) := by decide +kernel
theorem dX4_reckon_174 : decode cX4_reckon 174 = .ok (.laload, 1) := by decide +kernel
theorem dX4_reckon_175 : decode cX4_reckon 175 = .ok (.lconst 1, 1) := by decide +kernel
theorem dX4_reckon_176 : decode cX4_reckon 176 = .ok (.lcmp, 1) := by decide +kernel
theorem dX4_reckon_177 : decode cX4_reckon 177 = .ok (.ifCond .ne 7, 3) := by decide +kernel
theorem dX4_reckon_180 : decode cX4_reckon 180 = .ok (.lload_n 3, 1) := by decide +kernel
theorem dX4_reckon_181 : decode cX4_reckon 181 = .ok (.goto 14, 3) := by decide +kernel
theorem dX4_reckon_184 : decode cX4_reckon 184 = .ok (.aload_n 0, 1) := by decide +kernel
theorem dX4_reckon_185 : decode cX4_reckon 185 = .ok (.getfield 26, 3) := by decide +kernel
theorem dX4_reckon_188 : decode cX4_reckon 188 = .ok (.aload_n 0, 1) := by decide +kernel
theorem dX4_reckon_189 : decode cX4_reckon 189 = .ok (.getfield 17, 3) := by decide +kernel
theorem dX4_reckon_192 : decode cX4_reckon 192 = .ok (.iload_n 1, 1) := by decide +kernel
theorem dX4_reckon_193 : decode cX4_reckon 193 = .ok (.iaload, 1) := by decide +kernel
theorem dX4_reckon_194 : decode cX4_reckon 194 = .ok (.laload, 1) := by decide +kernel
theorem dX4_reckon_195 : decode cX4_reckon 195 = .ok (.lreturn, 1) := by decide +kernel
theorem dX4_reckon_196 : decode cX4_reckon 196 = .ok (.lload_n 3, 1) := by decide +kernel
theorem dX4_reckon_197 : decode cX4_reckon 197 = .ok (.aload_n 0, 1) := by decide +kernel
theorem dX4_reckon_198 : decode cX4_reckon 198 = .ok (.getfield 23, 3) := by decide +kernel
theorem dX4_reckon_201 : decode cX4_reckon 201 = .ok (.iload_n 1, 1) := by decide +kernel
theorem dX4_reckon_202 : decode cX4_reckon 202 = .ok (.iaload, 1) := by decide +kernel
theorem dX4_reckon_203 : decode cX4_reckon 203 = .ok (.iload 5, 2) := by decide +kernel
theorem dX4_reckon_205 : decode cX4_reckon 205 = .ok (.isub, 1) := by decide +kernel
theorem dX4_reckon_206 : decode cX4_reckon 206 = .ok (.lshl, 1) := by decide +kernel
theorem dX4_reckon_207 : decode cX4_reckon 207 = .ok (.aload_n 0, 1) := by decide +kernel
theorem dX4_reckon_208 : decode cX4_reckon 208 = .ok (.getfield 26, 3) := by decide +kernel
theorem dX4_reckon_211 : decode cX4_reckon 211 = .ok (.aload_n 0, 1) := by decide +kernel
theorem dX4_reckon_212 : decode cX4_reckon 212 = .ok (.getfield 17, 3) := by decide +kernel
theorem dX4_reckon_215 : decode cX4_reckon 215 = .ok (.iload_n 1, 1) := by decide +kernel
theorem dX4_reckon_216 : decode cX4_reckon 216 = .ok (.iaload, 1) := by decide +kernel
theorem dX4_reckon_217 : decode cX4_reckon 217 = .ok (.laload, 1) := by decide +kernel
theorem dX4_reckon_218 : decode cX4_reckon 218 = .ok (.lor, 1) := by decide +kernel
theorem dX4_reckon_219 : decode cX4_reckon 219 = .ok (.lreturn, 1) := by decide +kernel
theorem dX4_reckon_220 : decode cX4_reckon 220 = .ok (.lload_n 3, 1) := by decide +kernel
theorem dX4_reckon_221 : decode cX4_reckon 221 = .ok (.aload_n 0, 1) := by decide +kernel
theorem dX4_reckon_222 : decode cX4_reckon 222 = .ok (.getfield 17, 3) := by decide +kernel
theorem dX4_reckon_225 : decode cX4_reckon 225 = .ok (.iload_n 1, 1) := by decide +kernel
theorem dX4_reckon_226 : decode cX4_reckon 226 = .ok (.iaload, 1) := by decide +kernel
theorem dX4_reckon_227 : decode cX4_reckon 227 = .ok (.lushr, 1) := by decide +kernel
theorem dX4_reckon_228 : decode cX4_reckon 228 = .ok (.lreturn, 1) := by decide +kernel
theorem dX4_reckon_229 : decode cX4_reckon 229 = .ok (.lload_n 3, 1) := by decide +kernel
theorem dX4_reckon_230 : decode cX4_reckon 230 = .ok (.lreturn, 1) := by decide +kernel
theorem dX4_reckon_231 : decode cX4_reckon 231 = .ok (.lload_n 3, 1) := by decide +kernel
theorem dX4_reckon_232 : decode cX4_reckon 232 = .ok (.iload 5, 2) := by decide +kernel
theorem dX4_reckon_234 : decode cX4_reckon 234 = .ok (.invokestatic 73, 3) := by decide +kernel
theorem dX4_reckon_237 : decode cX4_reckon 237 = .ok (.lreturn, 1) := by decide +kernel
theorem dX4_reckonAll_0 : decode cX4_reckonAll 0 = .ok (.iconst 0, 1) := by decide +kernel
theorem dX4_reckonAll_1 : decode cX4_reckonAll 1 = .ok (.istore_n 1, 1) := by decide +kernel
theorem dX4_reckonAll_2 : decode cX4_reckonAll 2 = .ok (.iload_n 1, 1) := by decide +kernel
theorem dX4_reckonAll_3 : decode cX4_reckonAll 3 = .ok (.aload_n 0, 1) := by decide +kernel
theorem dX4_reckonAll_4 : decode cX4_reckonAll 4 = .ok (.getfield 34, 3) := by decide +kernel
theorem dX4_reckonAll_7 : decode cX4_reckonAll 7 = .ok (.if_icmp .ge 30, 3) := by decide +kernel
theorem dX4_reckonAll_10 : decode cX4_reckonAll 10 = .ok (.aload_n 0, 1) := by decide +kernel
theorem dX4_reckonAll_11 : decode cX4_reckonAll 11 = .ok (.getfield 26, 3) := by decide +kernel
theorem dX4_reckonAll_14 : decode cX4_reckonAll 14 = .ok (.iload_n 1, 1) := by decide +kernel
theorem dX4_reckonAll_15 : decode cX4_reckonAll 15 = .ok (.aload_n 0, 1) := by decide +kernel
theorem dX4_reckonAll_16 : decode cX4_reckonAll 16 = .ok (.iload_n 1, 1) := by decide +kernel
theorem dX4_reckonAll_17 : decode cX4_reckonAll 17 = .ok (.invokevirtual 91, 3) := by decide +kernel
theorem dX4_reckonAll_20 : decode cX4_reckonAll 20 = .ok (.aload_n 0, 1) := by decide +kernel
theorem dX4_reckonAll_21 : decode cX4_reckonAll 21 = .ok (.getfield 23, 3) := by decide +kernel
theorem dX4_reckonAll_24 : decode cX4_reckonAll 24 = .ok (.iload_n 1, 1) := by decide +kernel
theorem dX4_reckonAll_25 : decode cX4_reckonAll 25 = .ok (.iaload, 1) := by decide +kernel
theorem dX4_reckonAll_26 : decode cX4_reckonAll 26 = .ok (.invokestatic 51, 3) := by decide +kernel
theorem dX4_reckonAll_29 : decode cX4_reckonAll 29 = .ok (.land, 1) := by decide +kernel
theorem dX4_reckonAll_30 : decode cX4_reckonAll 30 = .ok (.lastore, 1) := by decide +kernel
theorem dX4_reckonAll_31 : decode cX4_reckonAll 31 = .ok (.iinc 1 1, 3) := by decide +kernel
theorem dX4_reckonAll_34 : decode cX4_reckonAll 34 = .ok (.goto (-32), 3) := by decide +kernel
theorem dX4_reckonAll_37 : decode cX4_reckonAll 37 = .ok (.return_, 1) := by decide +kernel
theorem dX4_set_0 : decode cX4_set 0 = .ok (.aload_n 0, 1) := by decide +kernel
theorem dX4_set_1 : decode cX4_set 1 = .ok (.aload_n 0, 1) := by decide +kernel
theorem dX4_set_2 : decode cX4_set 2 = .ok (.iload_n 1, 1) := by decide +kernel
theorem dX4_set_3 : decode cX4_set 3 = .ok (.invokevirtual 37, 3) := by decide +kernel
theorem dX4_set_6 : decode cX4_set 6 = .ok (.ifCond .eq 16, 3) := by decide +kernel
theorem dX4_set_9 : decode cX4_set 9 = .ok (.aload_n 0, 1) := by decide +kernel
theorem dX4_set_10 : decode cX4_set 10 = .ok (.getfield 7, 3) := by decide +kernel
theorem dX4_set_13 : decode cX4_set 13 = .ok (.iload_n 1, 1) := by decide +kernel
theorem dX4_set_14 : decode cX4_set 14 = .ok (.baload, 1) := by decide +kernel
theorem dX4_set_15 : decode cX4_set 15 = .ok (.ifCond .ne 7, 3) := by decide +kernel
theorem dX4_set_18 : decode cX4_set 18 = .ok (.iconst 0, 1) := by decide +kernel
theorem dX4_set_19 : decode cX4_set 19 = .ok (.goto 4, 3) := by decide +kernel
theorem dX4_set_22 : decode cX4_set 22 = .ok (.iconst 1, 1) := by decide +kernel
theorem dX4_set_23 : decode cX4_set 23 = .ok (.putfield 30, 3) := by decide +kernel
theorem dX4_set_26 : decode cX4_set 26 = .ok (.aload_n 0, 1) := by decide +kernel
theorem dX4_set_27 : decode cX4_set 27 = .ok (.getfield 30, 3) := by decide +kernel
theorem dX4_set_30 : decode cX4_set 30 = .ok (.ifCond .le 5, 3) := by decide +kernel
theorem dX4_set_33 : decode cX4_set 33 = .ok (.lconst 0, 1) := by decide +kernel
theorem dX4_set_34 : decode cX4_set 34 = .ok (.lreturn, 1) := by decide +kernel
theorem dX4_set_35 : decode cX4_set 35 = .ok (.aload_n 0, 1) := by decide +kernel
theorem dX4_set_36 : decode cX4_set 36 = .ok (.getfield 26, 3) := by decide +kernel
theorem dX4_set_39 : decode cX4_set 39 = .ok (.iload_n 1, 1) := by decide +kernel
theorem dX4_set_40 : decode cX4_set 40 = .ok (.laload, 1) := by decide +kernel
theorem dX4_set_41 : decode cX4_set 41 = .ok (.lstore 4, 2) := by decide +kernel
theorem dX4_set_43 : decode cX4_set 43 = .ok (.aload_n 0, 1) := by decide +kernel
theorem dX4_set_44 : decode cX4_set 44 = .ok (.getfield 26, 3) := by decide +kernel
theorem dX4_set_47 : decode cX4_set 47 = .ok (.iload_n 1, 1) := by decide +kernel
theorem dX4_set_48 : decode cX4_set 48 = .ok (.lload_n 2, 1) := by decide +kernel
theorem dX4_set_49 : decode cX4_set 49 = .ok (.aload_n 0, 1) := by decide +kernel
theorem dX4_set_50 : decode cX4_set 50 = .ok (.getfield 23, 3) := by decide +kernel
theorem dX4_set_53 : decode cX4_set 53 = .ok (.iload_n 1, 1) := by decide +kernel
theorem dX4_set_54 : decode cX4_set 54 = .ok (.iaload, 1) := by decide +kernel
theorem dX4_set_55 : decode cX4_set 55 = .ok (.invokestatic 51, 3) := by decide +kernel
theorem dX4_set_58 : decode cX4_set 58 = .ok (.land, 1) := by decide +kernel
theorem dX4_set_59 : decode cX4_set 59 = .ok (.lastore, 1) := by decide +kernel
theorem dX4_set_60 : decode cX4_set 60 = .ok (.lload 4, 2) := by decide +kernel
theorem dX4_set_62 : decode cX4_set 62 = .ok (.lreturn, 1) := by decide +kernel
theorem dX4_value_0 : decode cX4_value 0 = .ok (.aload_n 0, 1) := by decide +kernel
theorem dX4_value_1 : decode cX4_value 1 = .ok (.aload_n 0, 1) := by decide +kernel
theorem dX4_value_2 : decode cX4_value 2 = .ok (.iload_n 1, 1) := by decide +kernel
theorem dX4_value_3 : decode cX4_value 3 = .ok (.invokevirtual 37, 3) := by decide +kernel
theorem dX4_value_6 : decode cX4_value 6 = .ok (.ifCond .eq 7, 3) := by decide +kernel
theorem dX4_value_9 : decode cX4_value 9 = .ok (.iconst 0, 1) := by decide +kernel
theorem dX4_value_10 : decode cX4_value 10 = .ok (.goto 4, 3) := by decide +kernel
theorem dX4_value_13 : decode cX4_value 13 = .ok (.iconst 1, 1) := by decide +kernel
theorem dX4_value_14 : decode cX4_value 14 = .ok (.putfield 30, 3) := by decide +kernel
theorem dX4_value_17 : decode cX4_value 17 = .ok (.aload_n 0, 1) := by decide +kernel
theorem dX4_value_18 : decode cX4_value 18 = .ok (.getfield 30, 3) := by decide +kernel
theorem dX4_value_21 : decode cX4_value 21 = .ok (.ifCond .le 5, 3) := by decide +kernel
theorem dX4_value_24 : decode cX4_value 24 = .ok (.lconst 0, 1) := by decide +kernel
theorem dX4_value_25 : decode cX4_value 25 = .ok (.lreturn, 1) := by decide +kernel
theorem dX4_value_26 : decode cX4_value 26 = .ok (.aload_n 0, 1) := by decide +kernel
theorem dX4_value_27 : decode cX4_value 27 = .ok (.invokevirtual 94, 3) := by decide +kernel
theorem dX4_value_30 : decode cX4_value 30 = .ok (.aload_n 0, 1) := by decide +kernel
theorem dX4_value_31 : decode cX4_value 31 = .ok (.getfield 26, 3) := by decide +kernel
theorem dX4_value_34 : decode cX4_value 34 = .ok (.iload_n 1, 1) := by decide +kernel
theorem dX4_value_35 : decode cX4_value 35 = .ok (.laload, 1) := by decide +kernel
theorem dX4_value_36 : decode cX4_value 36 = .ok (.lreturn, 1) := by decide +kernel
theorem dX4_width_0 : decode cX4_width 0 = .ok (.aload_n 0, 1) := by decide +kernel
theorem dX4_width_1 : decode cX4_width 1 = .ok (.aload_n 0, 1) := by decide +kernel
theorem dX4_width_2 : decode cX4_width 2 = .ok (.iload_n 1, 1) := by decide +kernel
theorem dX4_width_3 : decode cX4_width 3 = .ok (.invokevirtual 37, 3) := by decide +kernel
theorem dX4_width_6 : decode cX4_width 6 = .ok (.ifCond .eq 7, 3) := by decide +kernel
theorem dX4_width_9 : decode cX4_width 9 = .ok (.iconst 0, 1) := by decide +kernel
theorem dX4_width_10 : decode cX4_width 10 = .ok (.goto 4, 3) := by decide +kernel
theorem dX4_width_13 : decode cX4_width 13 = .ok (.iconst 1, 1) := by decide +kernel
theorem dX4_width_14 : decode cX4_width 14 = .ok (.putfield 30, 3) := by decide +kernel
theorem dX4_width_17 : decode cX4_width 17 = .ok (.aload_n 0, 1) := by decide +kernel
theorem dX4_width_18 : decode cX4_width 18 = .ok (.getfield 30, 3) := by decide +kernel
theorem dX4_width_21 : decode cX4_width 21 = .ok (.ifCond .le 7, 3) := by decide +kernel
theorem dX4_width_24 : decode cX4_width 24 = .ok (.iconst 0, 1) := by decide +kernel
theorem dX4_width_25 : decode cX4_width 25 = .ok (.goto 9, 3) := by decide +kernel
theorem dX4_width_28 : decode cX4_width 28 = .ok (.aload_n 0, 1) := by decide +kernel
theorem dX4_width_29 : decode cX4_width 29 = .ok (.getfield 23, 3) := by decide +kernel
theorem dX4_width_32 : decode cX4_width 32 = .ok (.iload_n 1, 1) := by decide +kernel
theorem dX4_width_33 : decode cX4_width 33 = .ok (.iaload, 1) := by decide +kernel
theorem dX4_width_34 : decode cX4_width 34 = .ok (.ireturn, 1) := by decide +kernel
theorem dX4_weight_0 : decode cX4_weight 0 = .ok (.aload_n 0, 1) := by decide +kernel
theorem dX4_weight_1 : decode cX4_weight 1 = .ok (.iconst 0, 1) := by decide +kernel
theorem dX4_weight_2 : decode cX4_weight 2 = .ok (.putfield 30, 3) := by decide +kernel
theorem dX4_weight_5 : decode cX4_weight 5 = .ok (.aload_n 0, 1) := by decide +kernel
theorem dX4_weight_6 : decode cX4_weight 6 = .ok (.getfield 43, 3) := by decide +kernel
theorem dX4_weight_9 : decode cX4_weight 9 = .ok (.ireturn, 1) := by decide +kernel
theorem dX4_vectors_0 : decode cX4_vectors 0 = .ok (.aload_n 0, 1) := by decide +kernel
theorem dX4_vectors_1 : decode cX4_vectors 1 = .ok (.iconst 0, 1) := by decide +kernel
theorem dX4_vectors_2 : decode cX4_vectors 2 = .ok (.putfield 30, 3) := by decide +kernel
theorem dX4_vectors_5 : decode cX4_vectors 5 = .ok (.aload_n 0, 1) := by decide +kernel
theorem dX4_vectors_6 : decode cX4_vectors 6 = .ok (.getfield 34, 3) := by decide +kernel
theorem dX4_vectors_9 : decode cX4_vectors 9 = .ok (.ireturn, 1) := by decide +kernel
