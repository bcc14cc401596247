theorem dX0_init_0 : decode cX0_init 0 = .ok (.aload_n 0, 1) := by decide +kernel
theorem dX0_init_1 : decode cX0_init 1 = .ok (.invokespecial 1, 3) := by decide +kernel
theorem dX0_init_4 : decode cX0_init 4 = .ok (.aload_n 0, 1) := by decide +kernel
theorem dX0_init_5 : decode cX0_init 5 = .ok (.bipush 64, 2) := by decide +kernel
theorem dX0_init_7 : decode cX0_init 7 = .ok (.newarray .int, 2) := by decide +kernel
theorem dX0_init_9 : decode cX0_init 9 = .ok (.putfield 9, 3) := by decide +kernel
theorem dX0_init_12 : decode cX0_init 12 = .ok (.aload_n 0, 1) := by decide +kernel
theorem dX0_init_13 : decode cX0_init 13 = .ok (.bipush 64, 2) := by decide +kernel
theorem dX0_init_15 : decode cX0_init 15 = .ok (.newarray .int, 2) := by decide +kernel
theorem dX0_init_17 : decode cX0_init 17 = .ok (.putfield 13, 3) := by decide +kernel
theorem dX0_init_20 : decode cX0_init 20 = .ok (.aload_n 0, 1) := by decide +kernel
theorem dX0_init_21 : decode cX0_init 21 = .ok (.bipush 64, 2) := by decide +kernel
theorem dX0_init_23 : decode cX0_init 23 = .ok (.newarray .int, 2) := by decide +kernel
theorem dX0_init_25 : decode cX0_init 25 = .ok (.putfield 16, 3) := by decide +kernel
theorem dX0_init_28 : decode cX0_init 28 = .ok (.aload_n 0, 1) := by decide +kernel
theorem dX0_init_29 : decode cX0_init 29 = .ok (.bipush 64, 2) := by decide +kernel
theorem dX0_init_31 : decode cX0_init 31 = .ok (.newarray .int, 2) := by decide +kernel
theorem dX0_init_33 : decode cX0_init 33 = .ok (.putfield 19, 3) := by decide +kernel
theorem dX0_init_36 : decode cX0_init 36 = .ok (.aload_n 0, 1) := by decide +kernel
theorem dX0_init_37 : decode cX0_init 37 = .ok (.getfield 19, 3) := by decide +kernel
theorem dX0_init_40 : decode cX0_init 40 = .ok (.iconst 1, 1) := by decide +kernel
theorem dX0_init_41 : decode cX0_init 41 = .ok (.iconst 1, 1) := by decide +kernel
theorem dX0_init_42 : decode cX0_init 42 = .ok (.iastore, 1) := by decide +kernel
theorem dX0_init_43 : decode cX0_init 43 = .ok (.aload_n 0, 1) := by decide +kernel
theorem dX0_init_44 : decode cX0_init 44 = .ok (.iconst 2, 1) := by decide +kernel
theorem dX0_init_45 : decode cX0_init 45 = .ok (.putfield 22, 3) := by decide +kernel
theorem dX0_init_48 : decode cX0_init 48 = .ok (.aload_n 0, 1) := by decide +kernel
theorem dX0_init_49 : decode cX0_init 49 = .ok (.aload_n 0, 1) := by decide +kernel
theorem dX0_init_50 : decode cX0_init 50 = .ok (.getfield 22, 3) := by decide +kernel
theorem dX0_init_53 : decode cX0_init 53 = .ok (.putfield 26, 3) := by decide +kernel
theorem dX0_init_56 : decode cX0_init 56 = .ok (.return_, 1) := by decide +kernel
theorem dX0_source_0 : decode cX0_source 0 = .ok (.aload_n 0, 1) := by decide +kernel
theorem dX0_source_1 : decode cX0_source 1 = .ok (.iconst 0, 1) := by decide +kernel
theorem dX0_source_2 : decode cX0_source 2 = .ok (.iconst 0, 1) := by decide +kernel
theorem dX0_source_3 : decode cX0_source 3 = .ok (.iconst 0, 1) := by decide +kernel
theorem dX0_source_4 : decode cX0_source 4 = .ok (.invokevirtual 29, 3) := by decide +kernel
theorem dX0_source_7 : decode cX0_source 7 = .ok (.ireturn, 1) := by decide +kernel
theorem dX0_and_0 : decode cX0_and 0 = .ok (.aload_n 0, 1) := by decide +kernel
theorem dX0_and_1 : decode cX0_and 1 = .ok (.iconst 1, 1) := by decide +kernel
theorem dX0_and_2 : decode cX0_and 2 = .ok (.iload_n 1, 1) := by decide +kernel
theorem dX0_and_3 : decode cX0_and 3 = .ok (.iload_n 2, 1) := by decide +kernel
theorem dX0_and_4 : decode cX0_and 4 = .ok (.invokevirtual 29, 3) := by decide +kernel
theorem dX0_and_7 : decode cX0_and 7 = .ok (.ireturn, 1) := by decide +kernel
theorem dX0_or_0 : decode cX0_or 0 = .ok (.aload_n 0, 1) := by decide +kernel
theorem dX0_or_1 : decode cX0_or 1 = .ok (.iconst 2, 1) := by decide +kernel
theorem dX0_or_2 : decode cX0_or 2 = .ok (.iload_n 1, 1) := by decide +kernel
theorem dX0_or_3 : decode cX0_or 3 = .ok (.iload_n 2, 1) := by decide +kernel
theorem dX0_or_4 : decode cX0_or 4 = .ok (.invokevirtual 29, 3) := by decide +kernel
theorem dX0_or_7 : decode cX0_or 7 = .ok (.ireturn, 1) := by decide +kernel
theorem dX0_xor_0 : decode cX0_xor 0 = .ok (.aload_n 0, 1) := by decide +kernel
theorem dX0_xor_1 : decode cX0_xor 1 = .ok (.iconst 3, 1) := by decide +kernel
theorem dX0_xor_2 : decode cX0_xor 2 = .ok (.iload_n 1, 1) := by decide +kernel
theorem dX0_xor_3 : decode cX0_xor 3 = .ok (.iload_n 2, 1) := by decide +kernel
theorem dX0_xor_4 : decode cX0_xor 4 = .ok (.invokevirtual 29, 3) := by decide +kernel
theorem dX0_xor_7 : decode cX0_xor 7 = .ok (.ireturn, 1) := by decide +kernel
theorem dX0_not_0 : decode cX0_not 0 = .ok (.aload_n 0, 1) := by decide +kernel
theorem dX0_not_1 : decode cX0_not 1 = .ok (.iconst 3, 1) := by decide +kernel
theorem dX0_not_2 : decode cX0_not 2 = .ok (.iload_n 1, 1) := by decide +kernel
theorem dX0_not_3 : decode cX0_not 3 = .ok (.iconst 1, 1) := by decide +kernel
theorem dX0_not_4 : decode cX0_not 4 = .ok (.invokevirtual 29, 3) := by decide +kernel
theorem dX0_not_7 : decode cX0_not 7 = .ok (.ireturn, 1) := by decide +kernel
theorem dX0_gate_0 : decode cX0_gate 0 = .ok (.aload_n 0, 1) := by decide +kernel
theorem dX0_gate_1 : decode cX0_gate 1 = .ok (.getfield 22, 3) := by decide +kernel
theorem dX0_gate_4 : decode cX0_gate 4 = .ok (.aload_n 0, 1) := by decide +kernel
theorem dX0_gate_5 : decode cX0_gate 5 = .ok (.getfield 9, 3) := by decide +kernel
theorem dX0_gate_8 : decode cX0_gate 8 = .ok (.arraylength, 1) := by decide +kernel
theorem dX0_gate_9 : decode cX0_gate 9 = .ok (.if_icmp .lt 63, 3) := by decide +kernel
theorem dX0_gate_12 : decode cX0_gate 12 = .ok (.iconst 2, 1) := by decide +kernel
theorem dX0_gate_13 : decode cX0_gate 13 = .ok (.aload_n 0, 1) := by decide +kernel
theorem dX0_gate_14 : decode cX0_gate 14 = .ok (.getfield 22, 3) := by decide +kernel
theorem dX0_gate_17 : decode cX0_gate 17 = .ok (.imul, 1) := by decide +kernel
theorem dX0_gate_18 : decode cX0_gate 18 = .ok (.istore 4, 2) := by decide +kernel
theorem dX0_gate_20 : decode cX0_gate 20 = .ok (.aload_n 0, 1) := by decide +kernel
theorem dX0_gate_21 : decode cX0_gate 21 = .ok (.aload_n 0, 1) := by decide +kernel
theorem dX0_gate_22 : decode cX0_gate 22 = .ok (.getfield 9, 3) := by decide +kernel
theorem dX0_gate_25 : decode cX0_gate 25 = .ok (.iload 4, 2) := by decide +kernel
theorem dX0_gate_27 : decode cX0_gate 27 = .ok (.invokestatic 33, 3) := by decide +kernel
theorem dX0_gate_30 : decode cX0_gate 30 = .ok (.putfield 9, 3) := by decide +kernel
theorem dX0_gate_33 : decode cX0_gate 33 = .ok (.aload_n 0, 1) := by decide +kernel
theorem dX0_gate_34 : decode cX0_gate 34 = .ok (.aload_n 0, 1) := by decide +kernel
theorem dX0_gate_35 : decode cX0_gate 35 = .ok (.getfield 13, 3) := by decide +kernel
theorem dX0_gate_38 : decode cX0_gate 38 = .ok (.iload 4, 2) := by decide +kernel
theorem dX0_gate_40 : decode cX0_gate 40 = .ok (.invokestatic 33, 3) := by decide +kernel
theorem dX0_gate_43 : decode cX0_gate 43 = .ok (.putfield 13, 3) := by decide +kernel
theorem dX0_gate_46 : decode cX0_gate 46 = .ok (.aload_n 0, 1) := by decide +kernel
theorem dX0_gate_47 : decode cX0_gate 47 = .ok (.aload_n 0, 1) := by decide +kernel
theorem dX0_gate_48 : decode cX0_gate 48 = .ok (.getfield 16, 3) := by decide +kernel
theorem dX0_gate_51 : decode cX0_gate 51 = .ok (.iload 4, 2) := by decide +kernel
theorem dX0_gate_53 : decode cX0_gate 53 = .ok (.invokestatic 33, 3) := by decide +kernel
theorem dX0_gate_56 : decode cX0_gate 56 = .ok (.putfield 16, 3) := by decide +kernel
theorem dX0_gate_59 : decode cX0_gate 59 = .ok (.aload_n 0, 1) := by decide +kernel
theorem dX0_gate_60 : decode cX0_gate 60 = .ok (.aload_n 0, 1) := by decide +kernel
theorem dX0_gate_61 : decode cX0_gate 61 = .ok (.getfield 19, 3) := by decide +kernel
theorem dX0_gate_64 : decode cX0_gate 64 = .ok (.iload 4, 2) := by decide +kernel
theorem dX0_gate_66 : decode cX0_gate 66 = .ok (.invokestatic 33, 3) := by decide +kernel
theorem dX0_gate_69 : decode cX0_gate 69 = .ok (.putfield 19, 3) := by decide +kernel
theorem dX0_gate_72 : decode cX0_gate 72 = .ok (.aload_n 0, 1) := by decide +kernel
theorem dX0_gate_73 : decode cX0_gate 73 = .ok (.getfield 9, 3) := by decide +kernel
theorem dX0_gate_76 : decode cX0_gate 76 = .ok (.aload_n 0, 1) := by decide +kernel
theorem dX0_gate_77 : decode cX0_gate 77 = .ok (.getfield 22, 3) := by decide +kernel
theorem dX0_gate_80 : decode cX0_gate 80 = .ok (.iload_n 1, 1) := by decide +kernel
theorem dX0_gate_81 : decode cX0_gate 81 = .ok (.iastore, 1) := by decide +kernel
theorem dX0_gate_82 : decode cX0_gate 82 = .ok (.aload_n 0, 1) := by decide +kernel
theorem dX0_gate_83 : decode cX0_gate 83 = .ok (.getfield 13, 3) := by decide +kernel
theorem dX0_gate_86 : decode cX0_gate 86 = .ok (.aload_n 0, 1) := by decide +kernel
theorem dX0_gate_87 : decode cX0_gate 87 = .ok (.getfield 22, 3) := by decide +kernel
theorem dX0_gate_90 : decode cX0_gate 90 = .ok (.iload_n 2, 1) := by decide +kernel
theorem dX0_gate_91 : decode cX0_gate 91 = .ok (.iastore, 1) := by decide +kernel
theorem dX0_gate_92 : decode cX0_gate 92 = .ok (.aload_n 0, 1) := by decide +kernel
theorem dX0_gate_93 : decode cX0_gate 93 = .ok (.getfield 16, 3) := by decide +kernel
theorem dX0_gate_96 : decode cX0_gate 96 = .ok (.aload_n 0, 1) := by decide +kernel
theorem dX0_gate_97 : decode cX0_gate 97 = .ok (.getfield 22, 3) := by decide +kernel
theorem dX0_gate_100 : decode cX0_gate 100 = .ok (.iload_n 3, 1) := by decide +kernel
theorem dX0_gate_101 : decode cX0_gate 101 = .ok (.iastore, 1) := by decide +kernel
theorem dX0_gate_102 : decode cX0_gate 102 = .ok (.aload_n 0, 1) := by decide +kernel
theorem dX0_gate_103 : decode cX0_gate 103 = .ok (.dup, 1) := by decide +kernel
theorem dX0_gate_104 : decode cX0_gate 104 = .ok (.getfield 22, 3) := by decide +kernel
theorem dX0_gate_107 : decode cX0_gate 107 = .ok (.iconst 1, 1) := by decide +kernel
theorem dX0_gate_108 : decode cX0_gate 108 = .ok (.iadd, 1) := by decide +kernel
theorem dX0_gate_109 : decode cX0_gate 109 = .ok (.putfield 22, 3) := by decide +kernel
theorem dX0_gate_112 : decode cX0_gate 112 = .ok (.aload_n 0, 1) := by decide +kernel
theorem dX0_gate_113 : decode cX0_gate 113 = .ok (.getfield 22, 3) := by decide +kernel
theorem dX0_gate_116 : decode cX0_gate 116 = .ok (.iconst 1, 1) := by decide +kernel
theorem dX0_gate_117 : decode cX0_gate 117 = .ok (.isub, 1) := by decide +kernel
theorem dX0_gate_118 : decode cX0_gate 118 = .ok (.ireturn, 1) := by decide +kernel
theorem dX0_put_0 : decode cX0_put 0 = .ok (.aload_n 0, 1) := by decide +kernel
theorem dX0_put_1 : decode cX0_put 1 = .ok (.getfield 19, 3) := by decide +kernel
theorem dX0_put_4 : decode cX0_put 4 = .ok (.iload_n 1, 1) := by decide +kernel
theorem dX0_put_5 : decode cX0_put 5 = .ok (.iaload, 1) := by decide +kernel
theorem dX0_put_6 : decode cX0_put 6 = .ok (.istore_n 3, 1) := by decide +kernel
theorem dX0_put_7 : decode cX0_put 7 = .ok (.iload_n 3, 1) := by decide +kernel
theorem dX0_put_8 : decode cX0_put 8 = .ok (.iload_n 2, 1) := by decide +kernel
theorem dX0_put_9 : decode cX0_put 9 = .ok (.if_icmp .eq 24, 3) := by decide +kernel
theorem dX0_put_12 : decode cX0_put 12 = .ok (.aload_n 0, 1) := by decide +kernel
theorem dX0_put_13 : decode cX0_put 13 = .ok (.getfield 19, 3) := by decide +kernel
theorem dX0_put_16 : decode cX0_put 16 = .ok (.iload_n 1, 1) := by decide +kernel
theorem dX0_put_17 : decode cX0_put 17 = .ok (.iload_n 2, 1) := by decide +kernel
theorem dX0_put_18 : decode cX0_put 18 = .ok (.iastore, 1) := by decide +kernel
theorem dX0_put_19 : decode cX0_put 19 = .ok (.aload_n 0, 1) := by decide +kernel
theorem dX0_put_20 : decode cX0_put 20 = .ok (.aload_n 0, 1) := by decide +kernel
theorem dX0_put_21 : decode cX0_put 21 = .ok (.getfield 26, 3) := by decide +kernel
theorem dX0_put_24 : decode cX0_put 24 = .ok (.iload_n 1, 1) := by decide +kernel
theorem dX0_put_25 : decode cX0_put 25 = .ok (.iconst 1, 1) := by decide +kernel
theorem dX0_put_26 : decode cX0_put 26 = .ok (.iadd, 1) := by decide +kernel
theorem dX0_put_27 : decode cX0_put 27 = .ok (.invokestatic 39, 3) := by decide +kernel
theorem dX0_put_30 : decode cX0_put 30 = .ok (.putfield 26, 3) := by decide +kernel
theorem dX0_put_33 : decode cX0_put 33 = .ok (.iload_n 3, 1) := by decide +kernel
theorem dX0_put_34 : decode cX0_put 34 = .ok (.ireturn, 1) := by decide +kernel
theorem dX0_read_0 : decode cX0_read 0 = .ok (.aload_n 0, 1) := by decide +kernel
theorem dX0_read_1 : decode cX0_read 1 = .ok (.getfield 26, 3) := by decide +kernel
theorem dX0_read_4 : decode cX0_read 4 = .ok (.istore_n 2, 1) := by decide +kernel
theorem dX0_read_5 : decode cX0_read 5 = .ok (.iload_n 2, 1) := by decide +kernel
theorem dX0_read_6 : decode cX0_read 6 = .ok (.iload_n 1, 1) := by decide +kernel
theorem dX0_read_7 : decode cX0_read 7 = .ok (.if_icmp .gt 14, 3) := by decide +kernel
theorem dX0_read_10 : decode cX0_read 10 = .ok (.aload_n 0, 1) := by decide +kernel
theorem dX0_read_11 : decode cX0_read 11 = .ok (.iload_n 2, 1) := by decide +kernel
theorem dX0_read_12 : decode cX0_read 12 = .ok (.invokevirtual 45, 3) := by decide +kernel
theorem dX0_read_15 : decode cX0_read 15 = .ok (.iinc 2 1, 3) := by decide +kernel
theorem dX0_read_18 : decode cX0_read 18 = .ok (.goto (-13), 3) := by decide +kernel
theorem dX0_read_21 : decode cX0_read 21 = .ok (.aload_n 0, 1) := by decide +kernel
theorem dX0_read_22 : decode cX0_read 22 = .ok (.aload_n 0, 1) := by decide +kernel
theorem dX0_read_23 : decode cX0_read 23 = .ok (.getfield 26, 3) := by decide +kernel
theorem dX0_read_26 : decode cX0_read 26 = .ok (.iload_n 1, 1) := by decide +kernel
theorem dX0_read_27 : decode cX0_read 27 = .ok (.iconst 1, 1) := by decide +kernel
theorem dX0_read_28 : decode cX0_read 28 = .ok (.iadd, 1) := by decide +kernel
theorem dX0_read_29 : decode cX0_read 29 = .ok (.invokestatic 49, 3) := by decide +kernel
theorem dX0_read_32 : decode cX0_read 32 = .ok (.putfield 26, 3) := by decide +kernel
theorem dX0_read_35 : decode cX0_read 35 = .ok (.aload_n 0, 1) := by decide +kernel
theorem dX0_read_36 : decode cX0_read 36 = .ok (.getfield 19, 3) := by decide +kernel
theorem dX0_read_39 : decode cX0_read 39 = .ok (.iload_n 1, 1) := by decide +kernel
theorem dX0_read_40 : decode cX0_read 40 = .ok (.iaload, 1) := by decide +kernel
theorem dX0_read_41 : decode cX0_read 41 = .ok (.ireturn, 1) := by decide +kernel
theorem dX0_settle_0 : decode cX0_settle 0 = .ok (.aload_n 0, 1) := by decide +kernel
theorem dX0_settle_1 : decode cX0_settle 1 = .ok (.getfield 19, 3) := by decide +kernel
theorem dX0_settle_4 : decode cX0_settle 4 = .ok (.aload_n 0, 1) := by decide +kernel
theorem dX0_settle_5 : decode cX0_settle 5 = .ok (.getfield 13, 3) := by decide +kernel
theorem dX0_settle_8 : decode cX0_settle 8 = .ok (.iload_n 1, 1) := by decide +kernel
theorem dX0_settle_9 : decode cX0_settle 9 = .ok (.iaload, 1) := by decide +kernel
theorem dX0_settle_10 : decode cX0_settle 10 = .ok (.iaload, 1) := by decide +kernel
theorem dX0_settle_11 : decode cX0_settle 11 = .ok (.istore_n 2, 1) := by decide +kernel
theorem dX0_settle_12 : decode cX0_settle 12 = .ok (.aload_n 0, 1) := by decide +kernel
theorem dX0_settle_13 : decode cX0_settle 13 = .ok (.getfield 19, 3) := by decide +kernel
theorem dX0_settle_16 : decode cX0_settle 16 = .ok (.aload_n 0, 1) := by decide +kernel
theorem dX0_settle_17 : decode cX0_settle 17 = .ok (.getfield 16, 3) := by decide +kernel
theorem dX0_settle_20 : decode cX0_settle 20 = .ok (.iload_n 1, 1) := by decide +kernel
theorem dX0_settle_21 : decode cX0_settle 21 = .ok (.iaload, 1) := by decide +kernel
theorem dX0_settle_22 : decode cX0_settle 22 = .ok (.iaload, 1) := by decide +kernel
theorem dX0_settle_23 : decode cX0_settle 23 = .ok (.istore_n 3, 1) := by decide +kernel
theorem dX0_settle_24 : decode cX0_settle 24 = .ok (.aload_n 0, 1) := by decide +kernel
theorem dX0_settle_25 : decode cX0_settle 25 = .ok (.getfield 9, 3) := by decide +kernel
theorem dX0_settle_28 : decode cX0_settle 28 = .ok (.iload_n 1, 1) := by decide +kernel
theorem dX0_settle_29 : decode cX0_settle 29 = .ok (.iaload, 1) := by decide +kernel
theorem dX0_settle_30 : decode cX0_settle 30 = .ok (.tableswitch 62 1 3 #[26, 38, 50], 26) := by decide +kernel
theorem dX0_settle_56 : decode cX0_settle 56 = .ok (.aload_n 0, 1) := by decide +kernel
theorem dX0_settle_57 : decode cX0_settle 57 = .ok (.getfield 19, 3) := by decide +kernel
theorem dX0_settle_60 : decode cX0_settle 60 = .ok (.iload_n 1, 1) := by decide +kernel
theorem dX0_settle_61 : decode cX0_settle 61 = .ok (.iload_n 2, 1) := by decide +kernel
theorem dX0_settle_62 : decode cX0_settle 62 = .ok (.iload_n 3, 1) := by decide +kernel
theorem dX0_settle_63 : decode cX0_settle 63 = .ok (.iand, 1) := by decide +kernel
theorem dX0_settle_64 : decode cX0_settle 64 = .ok (.iastore, 1) := by decide +kernel
theorem dX0_settle_65 : decode cX0_settle 65 = .ok (.goto 27, 3) := by decide +kernel
theorem dX0_settle_68 : decode cX0_settle 68 = .ok (.aload_n 0, 1) := by decide +kernel
theorem dX0_settle_69 : decode cX0_settle 69 = .ok (.getfield 19, 3) := by decide +kernel
theorem dX0_settle_72 : decode cX0_settle 72 = .ok (.iload_n 1, 1) := by decide +kernel
theorem dX0_settle_73 : decode cX0_settle 73 = .ok (.iload_n 2, 1) := by decide +kernel
theorem dX0_settle_74 : decode cX0_settle 74 = .ok (.iload_n 3, 1) := by decide +kernel
theorem dX0_settle_75 : decode cX0_settle 75 = .ok (.ior, 1) := by decide +kernel
theorem dX0_settle_76 : decode cX0_settle 76 = .ok (.iastore, 1) := by decide +kernel
theorem dX0_settle_77 : decode cX0_settle 77 = .ok (.goto 15, 3) := by decide +kernel
theorem dX0_settle_80 : decode cX0_settle 80 = .ok (.aload_n 0, 1) := by decide +kernel
theorem dX0_settle_81 : decode cX0_settle 81 = .ok (.getfield 19, 3) := by decide +kernel
theorem dX0_settle_84 : decode cX0_settle 84 = .ok (.iload_n 1, 1) := by decide +kernel
theorem dX0_settle_85 : decode cX0_settle 85 = .ok (.iload_n 2, 1) := by decide +kernel
theorem dX0_settle_86 : decode cX0_settle 86 = .ok (.iload_n 3, 1) := by decide +kernel
theorem dX0_settle_87 : decode cX0_settle 87 = .ok (.ixor, 1) := by decide +kernel
theorem dX0_settle_88 : decode cX0_settle 88 = .ok (.iastore, 1) := by decide +kernel
theorem dX0_settle_89 : decode cX0_settle 89 = .ok (.goto 3, 3) := by decide +kernel
theorem dX0_settle_92 : decode cX0_settle 92 = .ok (.return_, 1) := by decide +kernel
theorem dX1_init_0 : decode cX1_init 0 = .ok (.aload_n 0, 1) := by decide +kernel
theorem dX1_init_1 : decode cX1_init 1 = .ok (.invokespecial 1, 3) := by decide +kernel
theorem dX1_init_4 : decode cX1_init 4 = .ok (.aload_n 0, 1) := by decide +kernel
theorem dX1_init_5 : decode cX1_init 5 = .ok (.new 7, 3) := by decide +kernel
theorem dX1_init_8 : decode cX1_init 8 = .ok (.dup, 1) := by decide +kernel
theorem dX1_init_9 : decode cX1_init 9 = .ok (.invokespecial 9, 3) := by decide +kernel
theorem dX1_init_12 : decode cX1_init 12 = .ok (.putfield 10, 3) := by decide +kernel
theorem dX1_init_15 : decode cX1_init 15 = .ok (.return_, 1) := by decide +kernel
theorem dX1_inverted_0 : decode cX1_inverted 0 = .ok (.aload_n 1, 1) := by decide +kernel
theorem dX1_inverted_1 : decode cX1_inverted 1 = .ok (.arraylength, 1) := by decide +kernel
theorem dX1_inverted_2 : decode cX1_inverted 2 = .ok (.newarray .int, 2) := by decide +kernel
theorem dX1_inverted_4 : decode cX1_inverted 4 = .ok (.astore_n 2, 1) := by decide +kernel
theorem dX1_inverted_5 : decode cX1_inverted 5 = .ok (.iconst 0, 1) := by decide +kernel
theorem dX1_inverted_6 : decode cX1_inverted 6 = .ok (.istore_n 3, 1) := by decide +kernel
theorem dX1_inverted_7 : decode cX1_inverted 7 = .ok (.iload_n 3, 1) := by decide +kernel
theorem dX1_inverted_8 : decode cX1_inverted 8 = .ok (.aload_n 1, 1) := by decide +kernel
theorem dX1_inverted_9 : decode cX1_inverted 9 = .ok (.arraylength, 1) := by decide +kernel
theorem dX1_inverted_10 : decode cX1_inverted 10 = .ok (.if_icmp .ge 22, 3) := by decide +kernel
theorem dX1_inverted_13 : decode cX1_inverted 13 = .ok (.aload_n 2, 1) := by decide +kernel
theorem dX1_inverted_14 : decode cX1_inverted 14 = .ok (.iload_n 3, 1) := by decide +kernel
theorem dX1_inverted_15 : decode cX1_inverted 15 = .ok (.aload_n 0, 1) := by decide +kernel
theorem dX1_inverted_16 : decode cX1_inverted 16 = .ok (.getfield 10, 3) := by decide +kernel
theorem dX1_inverted_19 : decode cX1_inverted 19 = .ok (.aload_n 1, 1) := by decide +kernel
theorem dX1_inverted_20 : decode cX1_inverted 20 = .ok (.iload_n 3, 1) := by decide +kernel
theorem dX1_inverted_21 : decode cX1_inverted 21 = .ok (.iaload, 1) := by decide +kernel
theorem dX1_inverted_22 : decode cX1_inverted 22 = .ok (.invokevirtual 16, 3) := by decide +kernel
theorem dX1_inverted_25 : decode cX1_inverted 25 = .ok (.iastore, 1) := by decide +kernel
theorem dX1_inverted_26 : decode cX1_inverted 26 = .ok (.iinc 3 1, 3) := by decide +kernel
theorem dX1_inverted_29 : decode cX1_inverted 29 = .ok (.goto (-22), 3) := by decide +kernel
theorem dX1_inverted_32 : decode cX1_inverted 32 = .ok (.aload_n 2, 1) := by decide +kernel
theorem dX1_inverted_33 : decode cX1_inverted 33 = .ok (.areturn, 1) := by decide +kernel
theorem dX1_negatedIf_0 : decode cX1_negatedIf 0 = .ok (.aload_n 2, 1) := by decide +kernel
theorem dX1_negatedIf_1 : decode cX1_negatedIf 1 = .ok (.arraylength, 1) := by decide +kernel
theorem dX1_negatedIf_2 : decode cX1_negatedIf 2 = .ok (.newarray .int, 2) := by decide +kernel
theorem dX1_negatedIf_4 : decode cX1_negatedIf 4 = .ok (.astore_n 3, 1) := by decide +kernel
theorem dX1_negatedIf_5 : decode cX1_negatedIf 5 = .ok (.iconst 0, 1) := by decide +kernel
theorem dX1_negatedIf_6 : decode cX1_negatedIf 6 = .ok (.istore 4, 2) := by decide +kernel
theorem dX1_negatedIf_8 : decode cX1_negatedIf 8 = .ok (.iload 4, 2) := by decide +kernel
theorem dX1_negatedIf_10 : decode cX1_negatedIf 10 = .ok (.aload_n 2, 1) := by decide +kernel
theorem dX1_negatedIf_11 : decode cX1_negatedIf 11 = .ok (.arraylength, 1) := by decide +kernel
theorem dX1_negatedIf_12 : decode cX1_negatedIf 12 = .ok (.if_icmp .ge 25, 3) := by decide +kernel
theorem dX1_negatedIf_15 : decode cX1_negatedIf 15 = .ok (.aload_n 3, 1) := by decide +kernel
theorem dX1_negatedIf_16 : decode cX1_negatedIf 16 = .ok (.iload 4, 2) := by decide +kernel
theorem dX1_negatedIf_18 : decode cX1_negatedIf 18 = .ok (.aload_n 0, 1) := by decide +kernel
theorem dX1_negatedIf_19 : decode cX1_negatedIf 19 = .ok (.getfield 10, 3) := by decide +kernel
theorem dX1_negatedIf_22 : decode cX1_negatedIf 22 = .ok (.aload_n 2, 1) := by decide +kernel
theorem dX1_negatedIf_23 : decode cX1_negatedIf 23 = .ok (.iload 4, 2) := by decide +kernel
theorem dX1_negatedIf_25 : decode cX1_negatedIf 25 = .ok (.iaload, 1) := by decide +kernel
theorem dX1_negatedIf_26 : decode cX1_negatedIf 26 = .ok (.iload_n 1, 1) := by decide +kernel
theorem dX1_negatedIf_27 : decode cX1_negatedIf 27 = .ok (.invokevirtual 20, 3) := by decide +kernel
theorem dX1_negatedIf_30 : decode cX1_negatedIf 30 = .ok (.iastore, 1) := by decide +kernel
theorem dX1_negatedIf_31 : decode cX1_negatedIf 31 = .ok (.iinc 4 1, 3) := by decide +kernel
theorem dX1_negatedIf_34 : decode cX1_negatedIf 34 = .ok (.goto (-26), 3) := by decide +kernel
theorem dX1_negatedIf_37 : decode cX1_negatedIf 37 = .ok (.aload_n 0, 1) := by decide +kernel
theorem dX1_negatedIf_38 : decode cX1_negatedIf 38 = .ok (.aload_n 3, 1) := by decide +kernel
theorem dX1_negatedIf_39 : decode cX1_negatedIf 39 = .ok (.aload_n 2, 1) := by decide +kernel
theorem dX1_negatedIf_40 : decode cX1_negatedIf 40 = .ok (.arraylength, 1) := by decide +kernel
theorem dX1_negatedIf_41 : decode cX1_negatedIf 41 = .ok (.newarray .int, 2) := by decide +kernel
theorem dX1_negatedIf_43 : decode cX1_negatedIf 43 = .ok (.iload_n 1, 1) := by decide +kernel
theorem dX1_negatedIf_44 : decode cX1_negatedIf 44 = .ok (.invokevirtual 24, 3) := by decide +kernel
theorem dX1_negatedIf_47 : decode cX1_negatedIf 47 = .ok (.invokestatic 28, 3) := by decide +kernel
theorem dX1_negatedIf_50 : decode cX1_negatedIf 50 = .ok (.areturn, 1) := by decide +kernel
theorem dX1_joined_0 : decode cX1_joined 0 = .ok (.aload_n 2, 1) := by decide +kernel
theorem dX1_joined_1 : decode cX1_joined 1 = .ok (.arraylength, 1) := by decide +kernel
theorem dX1_joined_2 : decode cX1_joined 2 = .ok (.newarray .int, 2) := by decide +kernel
theorem dX1_joined_4 : decode cX1_joined 4 = .ok (.astore 4, 2) := by decide +kernel
theorem dX1_joined_6 : decode cX1_joined 6 = .ok (.iconst 0, 1) := by decide +kernel
theorem dX1_joined_7 : decode cX1_joined 7 = .ok (.istore 5, 2) := by decide +kernel
theorem dX1_joined_9 : decode cX1_joined 9 = .ok (.iload 5, 2) := by decide +kernel
theorem dX1_joined_11 : decode cX1_joined 11 = .ok (.aload_n 2, 1) := by decide +kernel
theorem dX1_joined_12 : decode cX1_joined 12 = .ok (.arraylength, 1) := by decide +kernel
theorem dX1_joined_13 : decode cX1_joined 13 = .ok (.if_icmp .ge 30, 3) := by decide +kernel
theorem dX1_joined_16 : decode cX1_joined 16 = .ok (.aload 4, 2) := by decide +kernel
theorem dX1_joined_18 : decode cX1_joined 18 = .ok (.iload 5, 2) := by decide +kernel
theorem dX1_joined_20 : decode cX1_joined 20 = .ok (.aload_n 0, 1) := by decide +kernel
theorem dX1_joined_21 : decode cX1_joined 21 = .ok (.getfield 10, 3) := by decide +kernel
theorem dX1_joined_24 : decode cX1_joined 24 = .ok (.iload_n 1, 1) := by decide +kernel
theorem dX1_joined_25 : decode cX1_joined 25 = .ok (.aload_n 2, 1) := by decide +kernel
theorem dX1_joined_26 : decode cX1_joined 26 = .ok (.iload 5, 2) := by decide +kernel
theorem dX1_joined_28 : decode cX1_joined 28 = .ok (.iaload, 1) := by decide +kernel
theorem dX1_joined_29 : decode cX1_joined 29 = .ok (.aload_n 3, 1) := by decide +kernel
theorem dX1_joined_30 : decode cX1_joined 30 = .ok (.iload 5, 2) := by decide +kernel
theorem dX1_joined_32 : decode cX1_joined 32 = .ok (.iaload, 1) := by decide +kernel
theorem dX1_joined_33 : decode cX1_joined 33 = .ok (.invokevirtual 32, 3) := by decide +kernel
theorem dX1_joined_36 : decode cX1_joined 36 = .ok (.iastore, 1) := by decide +kernel
theorem dX1_joined_37 : decode cX1_joined 37 = .ok (.iinc 5 1, 3) := by decide +kernel
theorem dX1_joined_40 : decode cX1_joined 40 = .ok (.goto (-31), 3) := by decide +kernel
theorem dX1_joined_43 : decode cX1_joined 43 = .ok (.aload 4, 2) := by decide +kernel
theorem dX1_joined_45 : decode cX1_joined 45 = .ok (.areturn, 1) := by decide +kernel
theorem dX1_sum_0 : decode cX1_sum 0 = .ok (.aload_n 1, 1) := by decide +kernel
theorem dX1_sum_1 : decode cX1_sum 1 = .ok (.arraylength, 1) := by decide +kernel
theorem dX1_sum_2 : decode cX1_sum 2 = .ok (.iconst 1, 1) := by decide +kernel
theorem dX1_sum_3 : decode cX1_sum 3 = .ok (.iadd, 1) := by decide +kernel
theorem dX1_sum_4 : decode cX1_sum 4 = .ok (.newarray .int, 2) := by decide +kernel
theorem dX1_sum_6 : decode cX1_sum 6 = .ok (.astore 4, 2) := by decide +kernel
theorem dX1_sum_8 : decode cX1_sum 8 = .ok (.iload_n 3, 1) := by decide +kernel
theorem dX1_sum_9 : decode cX1_sum 9 = .ok (.istore 5, 2) := by decide +kernel
theorem dX1_sum_11 : decode cX1_sum 11 = .ok (.iconst 0, 1) := by decide +kernel
theorem dX1_sum_12 : decode cX1_sum 12 = .ok (.istore 6, 2) := by decide +kernel
theorem dX1_sum_14 : decode cX1_sum 14 = .ok (.iload 6, 2) := by decide +kernel
theorem dX1_sum_16 : decode cX1_sum 16 = .ok (.aload_n 1, 1) := by decide +kernel
theorem dX1_sum_17 : decode cX1_sum 17 = .ok (.arraylength, 1) := by decide +kernel
theorem dX1_sum_18 : decode cX1_sum 18 = .ok (.if_icmp .ge 77, 3) := by decide +kernel
theorem dX1_sum_21 : decode cX1_sum 21 = .ok (.aload_n 0, 1) := by decide +kernel
theorem dX1_sum_22 : decode cX1_sum 22 = .ok (.getfield 10, 3) := by decide +kernel
theorem dX1_sum_25 : decode cX1_sum 25 = .ok (.aload_n 1, 1) := by decide +kernel
theorem dX1_sum_26 : decode cX1_sum 26 = .ok (.iload 6, 2) := by decide +kernel
theorem dX1_sum_28 : decode cX1_sum 28 = .ok (.iaload, 1) := by decide +kernel
theorem dX1_sum_29 : decode cX1_sum 29 = .ok (.aload_n 2, 1) := by decide +kernel
theorem dX1_sum_30 : decode cX1_sum 30 = .ok (.iload 6, 2) := by decide +kernel
theorem dX1_sum_32 : decode cX1_sum 32 = .ok (.iaload, 1) := by decide +kernel
theorem dX1_sum_33 : decode cX1_sum 33 = .ok (.invokevirtual 20, 3) := by decide +kernel
theorem dX1_sum_36 : decode cX1_sum 36 = .ok (.istore 7, 2) := by decide +kernel
theorem dX1_sum_38 : decode cX1_sum 38 = .ok (.aload 4, 2) := by decide +kernel
theorem dX1_sum_40 : decode cX1_sum 40 = .ok (.iload 6, 2) := by decide +kernel
theorem dX1_sum_42 : decode cX1_sum 42 = .ok (.aload_n 0, 1) := by decide +kernel
theorem dX1_sum_43 : decode cX1_sum 43 = .ok (.getfield 10, 3) := by decide +kernel
theorem dX1_sum_46 : decode cX1_sum 46 = .ok (.iload 7, 2) := by decide +kernel
theorem dX1_sum_48 : decode cX1_sum 48 = .ok (.iload 5, 2) := by decide +kernel
theorem dX1_sum_50 : decode cX1_sum 50 = .ok (.invokevirtual 20, 3) := by decide +kernel
theorem dX1_sum_53 : decode cX1_sum 53 = .ok (.iastore, 1) := by decide +kernel
theorem dX1_sum_54 : decode cX1_sum 54 = .ok (.aload_n 0, 1) := by decide +kernel
theorem dX1_sum_55 : decode cX1_sum 55 = .ok (.getfield 10, 3) := by decide +kernel
theorem dX1_sum_58 : decode cX1_sum 58 = .ok (.aload_n 0, 1) := by decide +kernel
theorem dX1_sum_59 : decode cX1_sum 59 = .ok (.getfield 10, 3) := by decide +kernel
theorem dX1_sum_62 : decode cX1_sum 62 = .ok (.aload_n 1, 1) := by decide +kernel
theorem dX1_sum_63 : decode cX1_sum 63 = .ok (.iload 6, 2) := by decide +kernel
theorem dX1_sum_65 : decode cX1_sum 65 = .ok (.iaload, 1) := by decide +kernel
theorem dX1_sum_66 : decode cX1_sum 66 = .ok (.aload_n 2, 1) := by decide +kernel
theorem dX1_sum_67 : decode cX1_sum 67 = .ok (.iload 6, 2) := by decide +kernel
theorem dX1_sum_69 : decode cX1_sum 69 = .ok (.iaload, 1) := by decide +kernel
theorem dX1_sum_70 : decode cX1_sum 70 = .ok (.invokevirtual 36, 3) := by decide +kernel
theorem dX1_sum_73 : decode cX1_sum 73 = .ok (.aload_n 0, 1) := by decide +kernel
theorem dX1_sum_74 : decode cX1_sum 74 = .ok (.getfield 10, 3) := by decide +kernel
theorem dX1_sum_77 : decode cX1_sum 77 = .ok (.iload 7, 2) := by decide +kernel
theorem dX1_sum_79 : decode cX1_sum 79 = .ok (.iload 5, 2) := by decide +kernel
theorem dX1_sum_81 : decode cX1_sum 81 = .ok (.invokevirtual 36, 3) := by decide +kernel
theorem dX1_sum_84 : decode cX1_sum 84 = .ok (.invokevirtual 39, 3) := by decide +kernel
theorem dX1_sum_87 : decode cX1_sum 87 = .ok (.istore 5, 2) := by decide +kernel
theorem dX1_sum_89 : decode cX1_sum 89 = .ok (.iinc 6 1, 3) := by decide +kernel
theorem dX1_sum_92 : decode cX1_sum 92 = .ok (.goto (-78), 3) := by decide +kernel
theorem dX1_sum_95 : decode cX1_sum 95 = .ok (.aload 4, 2) := by decide +kernel
theorem dX1_sum_97 : decode cX1_sum 97 = .ok (.aload_n 1, 1) := by decide +kernel
theorem dX1_sum_98 : decode cX1_sum 98 = .ok (.arraylength, 1) := by decide +kernel
theorem dX1_sum_99 : decode cX1_sum 99 = .ok (.iload 5, 2) := by decide +kernel
theorem dX1_sum_101 : decode cX1_sum 101 = .ok (.iastore, 1) := by decide +kernel
theorem dX1_sum_102 : decode cX1_sum 102 = .ok (.aload 4, 2) := by decide +kernel
theorem dX1_sum_104 : decode cX1_sum 104 = .ok (.areturn, 1) := by decide +kernel
theorem dX1_withoutCarry_0 : decode cX1_withoutCarry 0 = .ok (.aload_n 0, 1) := by decide +kernel
theorem dX1_withoutCarry_1 : decode cX1_withoutCarry 1 = .ok (.aload_n 0, 1) := by decide +kernel
theorem dX1_withoutCarry_2 : decode cX1_withoutCarry 2 = .ok (.arraylength, 1) := by decide +kernel
theorem dX1_withoutCarry_3 : decode cX1_withoutCarry 3 = .ok (.iconst 1, 1) := by decide +kernel
theorem dX1_withoutCarry_4 : decode cX1_withoutCarry 4 = .ok (.isub, 1) := by decide +kernel
theorem dX1_withoutCarry_5 : decode cX1_withoutCarry 5 = .ok (.iconst 0, 1) := by decide +kernel
theorem dX1_withoutCarry_6 : decode cX1_withoutCarry 6 = .ok (.invokestatic 42, 3) := by decide +kernel
theorem dX1_withoutCarry_9 : decode cX1_withoutCarry 9 = .ok (.invokestatic 47, 3) := by decide +kernel
theorem dX1_withoutCarry_12 : decode cX1_withoutCarry 12 = .ok (.areturn, 1) := by decide +kernel
theorem dX1_picked_0 : decode cX1_picked 0 = .ok (.aload_n 3, 1) := by decide +kernel
theorem dX1_picked_1 : decode cX1_picked 1 = .ok (.arraylength, 1) := by decide +kernel
theorem dX1_picked_2 : decode cX1_picked 2 = .ok (.newarray .int, 2) := by decide +kernel
theorem dX1_picked_4 : decode cX1_picked 4 = .ok (.astore 4, 2) := by decide +kernel
theorem dX1_picked_6 : decode cX1_picked 6 = .ok (.iconst 0, 1) := by decide +kernel
theorem dX1_picked_7 : decode cX1_picked 7 = .ok (.istore 5, 2) := by decide +kernel
theorem dX1_picked_9 : decode cX1_picked 9 = .ok (.iload 5, 2) := by decide +kernel
theorem dX1_picked_11 : decode cX1_picked 11 = .ok (.aload_n 3, 1) := by decide +kernel
theorem dX1_picked_12 : decode cX1_picked 12 = .ok (.arraylength, 1) := by decide +kernel
theorem dX1_picked_13 : decode cX1_picked 13 = .ok (.if_icmp .ge 52, 3) := by decide +kernel
theorem dX1_picked_16 : decode cX1_picked 16 = .ok (.aload_n 0, 1) := by decide +kernel
theorem dX1_picked_17 : decode cX1_picked 17 = .ok (.getfield 10, 3) := by decide +kernel
theorem dX1_picked_20 : decode cX1_picked 20 = .ok (.aload_n 2, 1) := by decide +kernel
theorem dX1_picked_21 : decode cX1_picked 21 = .ok (.iload 5, 2) := by decide +kernel
theorem dX1_picked_23 : decode cX1_picked 23 = .ok (.iaload, 1) := by decide +kernel
theorem dX1_picked_24 : decode cX1_picked 24 = .ok (.aload_n 3, 1) := by decide +kernel
theorem dX1_picked_25 : decode cX1_picked 25 = .ok (.iload 5, 2) := by decide +kernel
theorem dX1_picked_27 : decode cX1_picked 27 = .ok (.iaload, 1) := by decide +kernel
theorem dX1_picked_28 : decode cX1_picked 28 = .ok (.invokevirtual 20, 3) := by decide +kernel
theorem dX1_picked_31 : decode cX1_picked 31 = .ok (.istore 6, 2) := by decide +kernel
theorem dX1_picked_33 : decode cX1_picked 33 = .ok (.aload 4, 2) := by decide +kernel
theorem dX1_picked_35 : decode cX1_picked 35 = .ok (.iload 5, 2) := by decide +kernel
theorem dX1_picked_37 : decode cX1_picked 37 = .ok (.aload_n 0, 1) := by decide +kernel
theorem dX1_picked_38 : decode cX1_picked 38 = .ok (.getfield 10, 3) := by decide +kernel
theorem dX1_picked_41 : decode cX1_picked 41 = .ok (.aload_n 3, 1) := by decide +kernel
theorem dX1_picked_42 : decode cX1_picked 42 = .ok (.iload 5, 2) := by decide +kernel
theorem dX1_picked_44 : decode cX1_picked 44 = .ok (.iaload, 1) := by decide +kernel
theorem dX1_picked_45 : decode cX1_picked 45 = .ok (.aload_n 0, 1) := by decide +kernel
theorem dX1_picked_46 : decode cX1_picked 46 = .ok (.getfield 10, 3) := by decide +kernel
theorem dX1_picked_49 : decode cX1_picked 49 = .ok (.iload_n 1, 1) := by decide +kernel
theorem dX1_picked_50 : decode cX1_picked 50 = .ok (.iload 6, 2) := by decide +kernel
theorem dX1_picked_52 : decode cX1_picked 52 = .ok (.invokevirtual 36, 3) := by decide +kernel
theorem dX1_picked_55 : decode cX1_picked 55 = .ok (.invokevirtual 20, 3) := by decide +kernel
theorem dX1_picked_58 : decode cX1_picked 58 = .ok (.iastore, 1) := by decide +kernel
theorem dX1_picked_59 : decode cX1_picked 59 = .ok (.iinc 5 1, 3) := by decide +kernel
theorem dX1_picked_62 : decode cX1_picked 62 = .ok (.goto (-53), 3) := by decide +kernel
theorem dX1_picked_65 : decode cX1_picked 65 = .ok (.aload 4, 2) := by decide +kernel
theorem dX1_picked_67 : decode cX1_picked 67 = .ok (.areturn, 1) := by decide +kernel
theorem dX1_product_0 : decode cX1_product 0 = .ok (.aload_n 1, 1) := by decide +kernel
theorem dX1_product_1 : decode cX1_product 1 = .ok (.arraylength, 1) := by decide +kernel
theorem dX1_product_2 : decode cX1_product 2 = .ok (.istore_n 3, 1) := by decide +kernel
theorem dX1_product_3 : decode cX1_product 3 = .ok (.iload_n 3, 1) := by decide +kernel
theorem dX1_product_4 : decode cX1_product 4 = .ok (.newarray .int, 2) := by decide +kernel
theorem dX1_product_6 : decode cX1_product 6 = .ok (.astore 4, 2) := by decide +kernel
theorem dX1_product_8 : decode cX1_product 8 = .ok (.iconst 0, 1) := by decide +kernel
theorem dX1_product_9 : decode cX1_product 9 = .ok (.istore 5, 2) := by decide +kernel
theorem dX1_product_11 : decode cX1_product 11 = .ok (.iload 5, 2) := by decide +kernel
theorem dX1_product_13 : decode cX1_product 13 = .ok (.iload_n 3, 1) := by decide +kernel
theorem dX1_product_14 : decode cX1_product 14 = .ok (.if_icmp .ge 84, 3) := by decide +kernel
theorem dX1_product_17 : decode cX1_product 17 = .ok (.iload_n 3, 1) := by decide +kernel
theorem dX1_product_18 : decode cX1_product 18 = .ok (.iload 5, 2) := by decide +kernel
theorem dX1_product_20 : decode cX1_product 20 = .ok (.isub, 1) := by decide +kernel
theorem dX1_product_21 : decode cX1_product 21 = .ok (.newarray .int, 2) := by decide +kernel
theorem dX1_product_23 : decode cX1_product 23 = .ok (.astore 6, 2) := by decide +kernel
theorem dX1_product_25 : decode cX1_product 25 = .ok (.iconst 0, 1) := by decide +kernel
theorem dX1_product_26 : decode cX1_product 26 = .ok (.istore 7, 2) := by decide +kernel
theorem dX1_product_28 : decode cX1_product 28 = .ok (.iload 7, 2) := by decide +kernel
theorem dX1_product_30 : decode cX1_product 30 = .ok (.aload 6, 2) := by decide +kernel
theorem dX1_product_32 : decode cX1_product 32 = .ok (.arraylength, 1) := by decide +kernel
theorem dX1_product_33 : decode cX1_product 33 = .ok (.if_icmp .ge 29, 3) := by decide +kernel
theorem dX1_product_36 : decode cX1_product 36 = .ok (.aload 6, 2) := by decide +kernel
theorem dX1_product_38 : decode cX1_product 38 = .ok (.iload 7, 2) := by decide +kernel
theorem dX1_product_40 : decode cX1_product 40 = .ok (.aload_n 0, 1) := by decide +kernel
theorem dX1_product_41 : decode cX1_product 41 = .ok (.getfield 10, 3) := by decide +kernel
theorem dX1_product_44 : decode cX1_product 44 = .ok (.aload_n 1, 1) := by decide +kernel
theorem dX1_product_45 : decode cX1_product 45 = .ok (.iload 7, 2) := by decide +kernel
theorem dX1_product_47 : decode cX1_product 47 = .ok (.iaload, 1) := by decide +kernel
theorem dX1_product_48 : decode cX1_product 48 = .ok (.aload_n 2, 1) := by decide +kernel
theorem dX1_product_49 : decode cX1_product 49 = .ok (.iload 5, 2) := by decide +kernel
theorem dX1_product_51 : decode cX1_product 51 = .ok (.iaload, 1) := by decide +kernel
theorem dX1_product_52 : decode cX1_product 52 = .ok (.invokevirtual 36, 3) := by decide +kernel
theorem dX1_product_55 : decode cX1_product 55 = .ok (.iastore, 1) := by decide +kernel
theorem dX1_product_56 : decode cX1_product 56 = .ok (.iinc 7 1, 3) := by decide +kernel
theorem dX1_product_59 : decode cX1_product 59 = .ok (.goto (-31), 3) := by decide +kernel
theorem dX1_product_62 : decode cX1_product 62 = .ok (.aload_n 0, 1) := by decide +kernel
theorem dX1_product_63 : decode cX1_product 63 = .ok (.aload 4, 2) := by decide +kernel
theorem dX1_product_65 : decode cX1_product 65 = .ok (.iload 5, 2) := by decide +kernel
theorem dX1_product_67 : decode cX1_product 67 = .ok (.iload_n 3, 1) := by decide +kernel
theorem dX1_product_68 : decode cX1_product 68 = .ok (.invokestatic 53, 3) := by decide +kernel
theorem dX1_product_71 : decode cX1_product 71 = .ok (.aload 6, 2) := by decide +kernel
theorem dX1_product_73 : decode cX1_product 73 = .ok (.iconst 0, 1) := by decide +kernel
theorem dX1_product_74 : decode cX1_product 74 = .ok (.invokevirtual 24, 3) := by decide +kernel
theorem dX1_product_77 : decode cX1_product 77 = .ok (.astore 7, 2) := by decide +kernel
theorem dX1_product_79 : decode cX1_product 79 = .ok (.aload 7, 2) := by decide +kernel
theorem dX1_product_81 : decode cX1_product 81 = .ok (.iconst 0, 1) := by decide +kernel
theorem dX1_product_82 : decode cX1_product 82 = .ok (.aload 4, 2) := by decide +kernel
theorem dX1_product_84 : decode cX1_product 84 = .ok (.iload 5, 2) := by decide +kernel
theorem dX1_product_86 : decode cX1_product 86 = .ok (.aload 6, 2) := by decide +kernel
theorem dX1_product_88 : decode cX1_product 88 = .ok (.arraylength, 1) := by decide +kernel
theorem dX1_product_89 : decode cX1_product 89 = .ok (.invokestatic 57, 3) := by decide +kernel
theorem dX1_product_92 : decode cX1_product 92 = .ok (.iinc 5 1, 3) := by decide +kernel
theorem dX1_product_95 : decode cX1_product 95 = .ok (.goto (-84), 3) := by decide +kernel
theorem dX1_product_98 : decode cX1_product 98 = .ok (.aload 4, 2) := by decide +kernel
theorem dX1_product_100 : decode cX1_product 100 = .ok (.areturn, 1) := by decide +kernel
theorem dX1_divided_0 : decode cX1_divided 0 = .ok (.aload_n 1, 1) := by decide +kernel
theorem dX1_divided_1 : decode cX1_divided 1 = .ok (.arraylength, 1) := by decide +kernel
theorem dX1_divided_2 : decode cX1_divided 2 = .ok (.istore 4, 2) := by decide +kernel
theorem dX1_divided_4 : decode cX1_divided 4 = .ok (.aload_n 0, 1) := by decide +kernel
theorem dX1_divided_5 : decode cX1_divided 5 = .ok (.aload_n 2, 1) := by decide +kernel
theorem dX1_divided_6 : decode cX1_divided 6 = .ok (.invokevirtual 63, 3) := by decide +kernel
theorem dX1_divided_9 : decode cX1_divided 9 = .ok (.astore 5, 2) := by decide +kernel
theorem dX1_divided_11 : decode cX1_divided 11 = .ok (.iload 4, 2) := by decide +kernel
theorem dX1_divided_13 : decode cX1_divided 13 = .ok (.newarray .int, 2) := by decide +kernel
theorem dX1_divided_15 : decode cX1_divided 15 = .ok (.astore 6, 2) := by decide +kernel
theorem dX1_divided_17 : decode cX1_divided 17 = .ok (.iload 4, 2) := by decide +kernel
theorem dX1_divided_19 : decode cX1_divided 19 = .ok (.newarray .int, 2) := by decide +kernel
theorem dX1_divided_21 : decode cX1_divided 21 = .ok (.astore 7, 2) := by decide +kernel
theorem dX1_divided_23 : decode cX1_divided 23 = .ok (.iload 4, 2) := by decide +kernel
theorem dX1_divided_25 : decode cX1_divided 25 = .ok (.iconst 1, 1) := by decide +kernel
theorem dX1_divided_26 : decode cX1_divided 26 = .ok (.isub, 1) := by decide +kernel
theorem dX1_divided_27 : decode cX1_divided 27 = .ok (.istore 8, 2) := by decide +kernel
theorem dX1_divided_29 : decode cX1_divided 29 = .ok (.iload 8, 2) := by decide +kernel
theorem dX1_divided_31 : decode cX1_divided 31 = .ok (.ifCond .lt 58, 3) := by decide +kernel
theorem dX1_divided_34 : decode cX1_divided 34 = .ok (.aload 7, 2) := by decide +kernel
theorem dX1_divided_36 : decode cX1_divided 36 = .ok (.iconst 1, 1) := by decide +kernel
theorem dX1_divided_37 : decode cX1_divided 37 = .ok (.iconst 1, 1) := by decide +kernel
theorem dX1_divided_38 : decode cX1_divided 38 = .ok (.aload_n 1, 1) := by decide +kernel
theorem dX1_divided_39 : decode cX1_divided 39 = .ok (.iload 8, 2) := by decide +kernel
theorem dX1_divided_41 : decode cX1_divided 41 = .ok (.iaload, 1) := by decide +kernel
theorem dX1_divided_42 : decode cX1_divided 42 = .ok (.invokestatic 66, 3) := by decide +kernel
theorem dX1_divided_45 : decode cX1_divided 45 = .ok (.astore 9, 2) := by decide +kernel
theorem dX1_divided_47 : decode cX1_divided 47 = .ok (.aload_n 0, 1) := by decide +kernel
theorem dX1_divided_48 : decode cX1_divided 48 = .ok (.aload 9, 2) := by decide +kernel
theorem dX1_divided_50 : decode cX1_divided 50 = .ok (.aload 5, 2) := by decide +kernel
theorem dX1_divided_52 : decode cX1_divided 52 = .ok (.iconst 1, 1) := by decide +kernel
theorem dX1_divided_53 : decode cX1_divided 53 = .ok (.invokevirtual 24, 3) := by decide +kernel
theorem dX1_divided_56 : decode cX1_divided 56 = .ok (.astore 10, 2) := by decide +kernel
theorem dX1_divided_58 : decode cX1_divided 58 = .ok (.aload 6, 2) := by decide +kernel
theorem dX1_divided_60 : decode cX1_divided 60 = .ok (.iload 8, 2) := by decide +kernel
theorem dX1_divided_62 : decode cX1_divided 62 = .ok (.aload 10, 2) := by decide +kernel
theorem dX1_divided_64 : decode cX1_divided 64 = .ok (.iload 4, 2) := by decide +kernel
theorem dX1_divided_66 : decode cX1_divided 66 = .ok (.iaload, 1) := by decide +kernel
theorem dX1_divided_67 : decode cX1_divided 67 = .ok (.iastore, 1) := by decide +kernel
theorem dX1_divided_68 : decode cX1_divided 68 = .ok (.aload_n 0, 1) := by decide +kernel
theorem dX1_divided_69 : decode cX1_divided 69 = .ok (.aload 6, 2) := by decide +kernel
theorem dX1_divided_71 : decode cX1_divided 71 = .ok (.iload 8, 2) := by decide +kernel
theorem dX1_divided_73 : decode cX1_divided 73 = .ok (.iaload, 1) := by decide +kernel
theorem dX1_divided_74 : decode cX1_divided 74 = .ok (.aload 10, 2) := by decide +kernel
theorem dX1_divided_76 : decode cX1_divided 76 = .ok (.aload 9, 2) := by decide +kernel
theorem dX1_divided_78 : decode cX1_divided 78 = .ok (.invokevirtual 70, 3) := by decide +kernel
theorem dX1_divided_81 : decode cX1_divided 81 = .ok (.astore 7, 2) := by decide +kernel
theorem dX1_divided_83 : decode cX1_divided 83 = .ok (.iinc 8 (-1), 3) := by decide +kernel
theorem dX1_divided_86 : decode cX1_divided 86 = .ok (.goto (-57), 3) := by decide +kernel
theorem dX1_divided_89 : decode cX1_divided 89 = .ok (.iload_n 3, 1) := by decide +kernel
theorem dX1_divided_90 : decode cX1_divided 90 = .ok (.ifCond .eq 8, 3) := by decide +kernel
theorem dX1_divided_93 : decode cX1_divided 93 = .ok (.aload 7, 2) := by decide +kernel
theorem dX1_divided_95 : decode cX1_divided 95 = .ok (.goto 5, 3) := by decide +kernel
theorem dX1_divided_98 : decode cX1_divided 98 = .ok (.aload 6, 2) := by decide +kernel
theorem dX1_divided_100 : decode cX1_divided 100 = .ok (.areturn, 1) := by decide +kernel
theorem dX1_dividedWithSign_0 : decode cX1_dividedWithSign 0 = .ok (.aload_n 1, 1) := by decide +kernel
theorem dX1_dividedWithSign_1 : decode cX1_dividedWithSign 1 = .ok (.aload_n 1, 1) := by decide +kernel
theorem dX1_dividedWithSign_2 : decode cX1_dividedWithSign 2 = .ok (.arraylength, 1) := by decide +kernel
theorem dX1_dividedWithSign_3 : decode cX1_dividedWithSign 3 = .ok (.iconst 1, 1) := by decide +kernel
theorem dX1_dividedWithSign_4 : decode cX1_dividedWithSign 4 = .ok (.isub, 1) := by decide +kernel
theorem dX1_dividedWithSign_5 : decode cX1_dividedWithSign 5 = .ok (.iaload, 1) := by decide +kernel
theorem dX1_dividedWithSign_6 : decode cX1_dividedWithSign 6 = .ok (.istore 4, 2) := by decide +kernel
theorem dX1_dividedWithSign_8 : decode cX1_dividedWithSign 8 = .ok (.aload_n 2, 1) := by decide +kernel
theorem dX1_dividedWithSign_9 : decode cX1_dividedWithSign 9 = .ok (.aload_n 2, 1) := by decide +kernel
theorem dX1_dividedWithSign_10 : decode cX1_dividedWithSign 10 = .ok (.arraylength, 1) := by decide +kernel
theorem dX1_dividedWithSign_11 : decode cX1_dividedWithSign 11 = .ok (.iconst 1, 1) := by decide +kernel
theorem dX1_dividedWithSign_12 : decode cX1_dividedWithSign 12 = .ok (.isub, 1) := by decide +kernel
theorem dX1_dividedWithSign_13 : decode cX1_dividedWithSign 13 = .ok (.iaload, 1) := by decide +kernel
theorem dX1_dividedWithSign_14 : decode cX1_dividedWithSign 14 = .ok (.istore 5, 2) := by decide +kernel
theorem dX1_dividedWithSign_16 : decode cX1_dividedWithSign 16 = .ok (.aload_n 0, 1) := by decide +kernel
theorem dX1_dividedWithSign_17 : decode cX1_dividedWithSign 17 = .ok (.aload_n 0, 1) := by decide +kernel
theorem dX1_dividedWithSign_18 : decode cX1_dividedWithSign 18 = .ok (.iload 4, 2) := by decide +kernel
theorem dX1_dividedWithSign_20 : decode cX1_dividedWithSign 20 = .ok (.aload_n 1, 1) := by decide +kernel
theorem dX1_dividedWithSign_21 : decode cX1_dividedWithSign 21 = .ok (.invokevirtual 74, 3) := by decide +kernel
theorem dX1_dividedWithSign_24 : decode cX1_dividedWithSign 24 = .ok (.aload_n 0, 1) := by decide +kernel
theorem dX1_dividedWithSign_25 : decode cX1_dividedWithSign 25 = .ok (.iload 5, 2) := by decide +kernel
theorem dX1_dividedWithSign_27 : decode cX1_dividedWithSign 27 = .ok (.aload_n 2, 1) := by decide +kernel
theorem dX1_dividedWithSign_28 : decode cX1_dividedWithSign 28 = .ok (.invokevirtual 74, 3) := by decide +kernel
theorem dX1_dividedWithSign_31 : decode cX1_dividedWithSign 31 = .ok (.iload_n 3, 1) := by decide +kernel
theorem dX1_dividedWithSign_32 : decode cX1_dividedWithSign 32 = .ok (.invokevirtual 78, 3) := by decide +kernel
theorem dX1_dividedWithSign_35 : decode cX1_dividedWithSign 35 = .ok (.astore 6, 2) := by decide +kernel
theorem dX1_dividedWithSign_37 : decode cX1_dividedWithSign 37 = .ok (.aload_n 0, 1) := by decide +kernel
theorem dX1_dividedWithSign_38 : decode cX1_dividedWithSign 38 = .ok (.iload_n 3, 1) := by decide +kernel
theorem dX1_dividedWithSign_39 : decode cX1_dividedWithSign 39 = .ok (.ifCond .eq 8, 3) := by decide +kernel
theorem dX1_dividedWithSign_42 : decode cX1_dividedWithSign 42 = .ok (.iload 4, 2) := by decide +kernel
theorem dX1_dividedWithSign_44 : decode cX1_dividedWithSign 44 = .ok (.goto 14, 3) := by decide +kernel
theorem dX1_dividedWithSign_47 : decode cX1_dividedWithSign 47 = .ok (.aload_n 0, 1) := by decide +kernel
theorem dX1_dividedWithSign_48 : decode cX1_dividedWithSign 48 = .ok (.getfield 10, 3) := by decide +kernel
theorem dX1_dividedWithSign_51 : decode cX1_dividedWithSign 51 = .ok (.iload 4, 2) := by decide +kernel
theorem dX1_dividedWithSign_53 : decode cX1_dividedWithSign 53 = .ok (.iload 5, 2) := by decide +kernel
theorem dX1_dividedWithSign_55 : decode cX1_dividedWithSign 55 = .ok (.invokevirtual 20, 3) := by decide +kernel
theorem dX1_dividedWithSign_58 : decode cX1_dividedWithSign 58 = .ok (.aload 6, 2) := by decide +kernel
theorem dX1_dividedWithSign_60 : decode cX1_dividedWithSign 60 = .ok (.invokevirtual 74, 3) := by decide +kernel
theorem dX1_dividedWithSign_63 : decode cX1_dividedWithSign 63 = .ok (.areturn, 1) := by decide +kernel
theorem dX1_shifted_0 : decode cX1_shifted 0 = .ok (.aload_n 1, 1) := by decide +kernel
theorem dX1_shifted_1 : decode cX1_shifted 1 = .ok (.arraylength, 1) := by decide +kernel
theorem dX1_shifted_2 : decode cX1_shifted 2 = .ok (.istore 5, 2) := by decide +kernel
theorem dX1_shifted_4 : decode cX1_shifted 4 = .ok (.aload_n 1, 1) := by decide +kernel
theorem dX1_shifted_5 : decode cX1_shifted 5 = .ok (.astore 6, 2) := by decide +kernel
theorem dX1_shifted_7 : decode cX1_shifted 7 = .ok (.iconst 0, 1) := by decide +kernel
theorem dX1_shifted_8 : decode cX1_shifted 8 = .ok (.istore 7, 2) := by decide +kernel
theorem dX1_shifted_10 : decode cX1_shifted 10 = .ok (.iconst 1, 1) := by decide +kernel
theorem dX1_shifted_11 : decode cX1_shifted 11 = .ok (.istore 8, 2) := by decide +kernel
theorem dX1_shifted_13 : decode cX1_shifted 13 = .ok (.iconst 0, 1) := by decide +kernel
theorem dX1_shifted_14 : decode cX1_shifted 14 = .ok (.istore 9, 2) := by decide +kernel
theorem dX1_shifted_16 : decode cX1_shifted 16 = .ok (.iload 9, 2) := by decide +kernel
theorem dX1_shifted_18 : decode cX1_shifted 18 = .ok (.iload 5, 2) := by decide +kernel
theorem dX1_shifted_20 : decode cX1_shifted 20 = .ok (.if_icmp .ge 62, 3) := by decide +kernel
theorem dX1_shifted_23 : decode cX1_shifted 23 = .ok (.iload 8, 2) := by decide +kernel
theorem dX1_shifted_25 : decode cX1_shifted 25 = .ok (.iload 5, 2) := by decide +kernel
theorem dX1_shifted_27 : decode cX1_shifted 27 = .ok (.if_icmp .ge 34, 3) := by decide +kernel
theorem dX1_shifted_30 : decode cX1_shifted 30 = .ok (.aload_n 0, 1) := by decide +kernel
theorem dX1_shifted_31 : decode cX1_shifted 31 = .ok (.aload_n 2, 1) := by decide +kernel
theorem dX1_shifted_32 : decode cX1_shifted 32 = .ok (.iload 9, 2) := by decide +kernel
theorem dX1_shifted_34 : decode cX1_shifted 34 = .ok (.iaload, 1) := by decide +kernel
theorem dX1_shifted_35 : decode cX1_shifted 35 = .ok (.aload 6, 2) := by decide +kernel
theorem dX1_shifted_37 : decode cX1_shifted 37 = .ok (.iload 8, 2) := by decide +kernel
theorem dX1_shifted_39 : decode cX1_shifted 39 = .ok (.iload_n 3, 1) := by decide +kernel
theorem dX1_shifted_40 : decode cX1_shifted 40 = .ok (.iload 4, 2) := by decide +kernel
theorem dX1_shifted_42 : decode cX1_shifted 42 = .ok (.invokestatic 66, 3) := by decide +kernel
theorem dX1_shifted_45 : decode cX1_shifted 45 = .ok (.aload 6, 2) := by decide +kernel
theorem dX1_shifted_47 : decode cX1_shifted 47 = .ok (.invokevirtual 70, 3) := by decide +kernel
theorem dX1_shifted_50 : decode cX1_shifted 50 = .ok (.astore 6, 2) := by decide +kernel
theorem dX1_shifted_52 : decode cX1_shifted 52 = .ok (.iload 8, 2) := by decide +kernel
theorem dX1_shifted_54 : decode cX1_shifted 54 = .ok (.iconst 2, 1) := by decide +kernel
theorem dX1_shifted_55 : decode cX1_shifted 55 = .ok (.imul, 1) := by decide +kernel
theorem dX1_shifted_56 : decode cX1_shifted 56 = .ok (.istore 8, 2) := by decide +kernel
theorem dX1_shifted_58 : decode cX1_shifted 58 = .ok (.goto 18, 3) := by decide +kernel
theorem dX1_shifted_61 : decode cX1_shifted 61 = .ok (.aload_n 0, 1) := by decide +kernel
theorem dX1_shifted_62 : decode cX1_shifted 62 = .ok (.getfield 10, 3) := by decide +kernel
theorem dX1_shifted_65 : decode cX1_shifted 65 = .ok (.iload 7, 2) := by decide +kernel
theorem dX1_shifted_67 : decode cX1_shifted 67 = .ok (.aload_n 2, 1) := by decide +kernel
theorem dX1_shifted_68 : decode cX1_shifted 68 = .ok (.iload 9, 2) := by decide +kernel
theorem dX1_shifted_70 : decode cX1_shifted 70 = .ok (.iaload, 1) := by decide +kernel
theorem dX1_shifted_71 : decode cX1_shifted 71 = .ok (.invokevirtual 39, 3) := by decide +kernel
theorem dX1_shifted_74 : decode cX1_shifted 74 = .ok (.istore 7, 2) := by decide +kernel
theorem dX1_shifted_76 : decode cX1_shifted 76 = .ok (.iinc 9 1, 3) := by decide +kernel
theorem dX1_shifted_79 : decode cX1_shifted 79 = .ok (.goto (-63), 3) := by decide +kernel
theorem dX1_shifted_82 : decode cX1_shifted 82 = .ok (.aload_n 0, 1) := by decide +kernel
theorem dX1_shifted_83 : decode cX1_shifted 83 = .ok (.iload 7, 2) := by decide +kernel
theorem dX1_shifted_85 : decode cX1_shifted 85 = .ok (.aload 6, 2) := by decide +kernel
theorem dX1_shifted_87 : decode cX1_shifted 87 = .ok (.iload 5, 2) := by decide +kernel
theorem dX1_shifted_89 : decode cX1_shifted 89 = .ok (.iload_n 3, 1) := by decide +kernel
theorem dX1_shifted_90 : decode cX1_shifted 90 = .ok (.iload 4, 2) := by decide +kernel
theorem dX1_shifted_92 : decode cX1_shifted 92 = .ok (.invokestatic 66, 3) := by decide +kernel
theorem dX1_shifted_95 : decode cX1_shifted 95 = .ok (.aload 6, 2) := by decide +kernel
theorem dX1_shifted_97 : decode cX1_shifted 97 = .ok (.invokevirtual 70, 3) := by decide +kernel
theorem dX1_shifted_100 : decode cX1_shifted 100 = .ok (.areturn, 1) := by decide +kernel
theorem dX1_moved_0 : decode cX1_moved 0 = .ok (.aload_n 0, 1) := by decide +kernel
theorem dX1_moved_1 : decode cX1_moved 1 = .ok (.arraylength, 1) := by decide +kernel
theorem dX1_moved_2 : decode cX1_moved 2 = .ok (.newarray .int, 2) := by decide +kernel
theorem dX1_moved_4 : decode cX1_moved 4 = .ok (.astore 4, 2) := by decide +kernel
theorem dX1_moved_6 : decode cX1_moved 6 = .ok (.iconst 0, 1) := by decide +kernel
theorem dX1_moved_7 : decode cX1_moved 7 = .ok (.istore 5, 2) := by decide +kernel
theorem dX1_moved_9 : decode cX1_moved 9 = .ok (.iload 5, 2) := by decide +kernel
theorem dX1_moved_11 : decode cX1_moved 11 = .ok (.aload_n 0, 1) := by decide +kernel
theorem dX1_moved_12 : decode cX1_moved 12 = .ok (.arraylength, 1) := by decide +kernel
theorem dX1_moved_13 : decode cX1_moved 13 = .ok (.if_icmp .ge 51, 3) := by decide +kernel
theorem dX1_moved_16 : decode cX1_moved 16 = .ok (.iload_n 2, 1) := by decide +kernel
theorem dX1_moved_17 : decode cX1_moved 17 = .ok (.ifCond .eq 10, 3) := by decide +kernel
theorem dX1_moved_20 : decode cX1_moved 20 = .ok (.iload 5, 2) := by decide +kernel
theorem dX1_moved_22 : decode cX1_moved 22 = .ok (.iload_n 1, 1) := by decide +kernel
theorem dX1_moved_23 : decode cX1_moved 23 = .ok (.isub, 1) := by decide +kernel
theorem dX1_moved_24 : decode cX1_moved 24 = .ok (.goto 7, 3) := by decide +kernel
theorem dX1_moved_27 : decode cX1_moved 27 = .ok (.iload 5, 2) := by decide +kernel
theorem dX1_moved_29 : decode cX1_moved 29 = .ok (.iload_n 1, 1) := by decide +kernel
theorem dX1_moved_30 : decode cX1_moved 30 = .ok (.iadd, 1) := by decide +kernel
theorem dX1_moved_31 : decode cX1_moved 31 = .ok (.istore 6, 2) := by decide +kernel
theorem dX1_moved_33 : decode cX1_moved 33 = .ok (.aload 4, 2) := by decide +kernel
theorem dX1_moved_35 : decode cX1_moved 35 = .ok (.iload 5, 2) := by decide +kernel
theorem dX1_moved_37 : decode cX1_moved 37 = .ok (.iload 6, 2) := by decide +kernel
theorem dX1_moved_39 : decode cX1_moved 39 = .ok (.ifCond .lt 17, 3) := by decide +kernel
theorem dX1_moved_42 : decode cX1_moved 42 = .ok (.iload 6, 2) := by decide +kernel
theorem dX1_moved_44 : decode cX1_moved 44 = .ok (.aload_n 0, 1) := by decide +kernel
theorem dX1_moved_45 : decode cX1_moved 45 = .ok (.arraylength, 1) := by decide +kernel
theorem dX1_moved_46 : decode cX1_moved 46 = .ok (.if_icmp .ge 10, 3) := by decide +kernel
theorem dX1_moved_49 : decode cX1_moved 49 = .ok (.aload_n 0, 1) := by decide +kernel
theorem dX1_moved_50 : decode cX1_moved 50 = .ok (.iload 6, 2) := by decide +kernel
theorem dX1_moved_52 : decode cX1_moved 52 = .ok (.iaload, 1) := by decide +kernel
theorem dX1_moved_53 : decode cX1_moved 53 = .ok (.goto 4, 3) := by decide +kernel
theorem dX1_moved_56 : decode cX1_moved 56 = .ok (.iload_n 3, 1) := by decide +kernel
theorem dX1_moved_57 : decode cX1_moved 57 = .ok (.iastore, 1) := by decide +kernel
theorem dX1_moved_58 : decode cX1_moved 58 = .ok (.iinc 5 1, 3) := by decide +kernel
theorem dX1_moved_61 : decode cX1_moved 61 = .ok (.goto (-52), 3) := by decide +kernel
theorem dX1_moved_64 : decode cX1_moved 64 = .ok (.aload 4, 2) := by decide +kernel
theorem dX1_moved_66 : decode cX1_moved 66 = .ok (.areturn, 1) := by decide +kernel
theorem dX1_same_0 : decode cX1_same 0 = .ok (.iconst 0, 1) := by decide +kernel
theorem dX1_same_1 : decode cX1_same 1 = .ok (.istore_n 3, 1) := by decide +kernel
theorem dX1_same_2 : decode cX1_same 2 = .ok (.iconst 0, 1) := by decide +kernel
theorem dX1_same_3 : decode cX1_same 3 = .ok (.istore 4, 2) := by decide +kernel
theorem dX1_same_5 : decode cX1_same 5 = .ok (.iload 4, 2) := by decide +kernel
theorem dX1_same_7 : decode cX1_same 7 = .ok (.aload_n 1, 1) := by decide +kernel
theorem dX1_same_8 : decode cX1_same 8 = .ok (.arraylength, 1) := by decide +kernel
theorem dX1_same_9 : decode cX1_same 9 = .ok (.if_icmp .ge 33, 3) := by decide +kernel
theorem dX1_same_12 : decode cX1_same 12 = .ok (.aload_n 0, 1) := by decide +kernel
theorem dX1_same_13 : decode cX1_same 13 = .ok (.getfield 10, 3) := by decide +kernel
theorem dX1_same_16 : decode cX1_same 16 = .ok (.iload_n 3, 1) := by decide +kernel
theorem dX1_same_17 : decode cX1_same 17 = .ok (.aload_n 0, 1) := by decide +kernel
theorem dX1_same_18 : decode cX1_same 18 = .ok (.getfield 10, 3) := by decide +kernel
theorem dX1_same_21 : decode cX1_same 21 = .ok (.aload_n 1, 1) := by decide +kernel
theorem dX1_same_22 : decode cX1_same 22 = .ok (.iload 4, 2) := by decide +kernel
theorem dX1_same_24 : decode cX1_same 24 = .ok (.iaload, 1) := by decide +kernel
theorem dX1_same_25 : decode cX1_same 25 = .ok (.aload_n 2, 1) := by decide +kernel
theorem dX1_same_26 : decode cX1_same 26 = .ok (.iload 4, 2) := by decide +kernel
theorem dX1_same_28 : decode cX1_same 28 = .ok (.iaload, 1) := by decide +kernel
theorem dX1_same_29 : decode cX1_same 29 = .ok (.invokevirtual 20, 3) := by decide +kernel
theorem dX1_same_32 : decode cX1_same 32 = .ok (.invokevirtual 39, 3) := by decide +kernel
theorem dX1_same_35 : decode cX1_same 35 = .ok (.istore_n 3, 1) := by decide +kernel
theorem dX1_same_36 : decode cX1_same 36 = .ok (.iinc 4 1, 3) := by decide +kernel
theorem dX1_same_39 : decode cX1_same 39 = .ok (.goto (-34), 3) := by decide +kernel
theorem dX1_same_42 : decode cX1_same 42 = .ok (.aload_n 0, 1) := by decide +kernel
theorem dX1_same_43 : decode cX1_same 43 = .ok (.getfield 10, 3) := by decide +kernel
theorem dX1_same_46 : decode cX1_same 46 = .ok (.iload_n 3, 1) := by decide +kernel
theorem dX1_same_47 : decode cX1_same 47 = .ok (.invokevirtual 16, 3) := by decide +kernel
theorem dX1_same_50 : decode cX1_same 50 = .ok (.ireturn, 1) := by decide +kernel
theorem dX1_atLeast_0 : decode cX1_atLeast 0 = .ok (.aload_n 0, 1) := by decide +kernel
theorem dX1_atLeast_1 : decode cX1_atLeast 1 = .ok (.aload_n 1, 1) := by decide +kernel
theorem dX1_atLeast_2 : decode cX1_atLeast 2 = .ok (.aload_n 0, 1) := by decide +kernel
theorem dX1_atLeast_3 : decode cX1_atLeast 3 = .ok (.aload_n 2, 1) := by decide +kernel
theorem dX1_atLeast_4 : decode cX1_atLeast 4 = .ok (.invokevirtual 63, 3) := by decide +kernel
theorem dX1_atLeast_7 : decode cX1_atLeast 7 = .ok (.iconst 1, 1) := by decide +kernel
theorem dX1_atLeast_8 : decode cX1_atLeast 8 = .ok (.invokevirtual 24, 3) := by decide +kernel
theorem dX1_atLeast_11 : decode cX1_atLeast 11 = .ok (.aload_n 1, 1) := by decide +kernel
theorem dX1_atLeast_12 : decode cX1_atLeast 12 = .ok (.arraylength, 1) := by decide +kernel
theorem dX1_atLeast_13 : decode cX1_atLeast 13 = .ok (.iaload, 1) := by decide +kernel
theorem dX1_atLeast_14 : decode cX1_atLeast 14 = .ok (.ireturn, 1) := by decide +kernel
theorem dX1_signTurned_0 : decode cX1_signTurned 0 = .ok (.aload_n 1, 1) := by decide +kernel
theorem dX1_signTurned_1 : decode cX1_signTurned 1 = .ok (.aload_n 1, 1) := by decide +kernel
theorem dX1_signTurned_2 : decode cX1_signTurned 2 = .ok (.arraylength, 1) := by decide +kernel
theorem dX1_signTurned_3 : decode cX1_signTurned 3 = .ok (.invokestatic 47, 3) := by decide +kernel
theorem dX1_signTurned_6 : decode cX1_signTurned 6 = .ok (.astore_n 2, 1) := by decide +kernel
theorem dX1_signTurned_7 : decode cX1_signTurned 7 = .ok (.aload_n 2, 1) := by decide +kernel
theorem dX1_signTurned_8 : decode cX1_signTurned 8 = .ok (.aload_n 1, 1) := by decide +kernel
theorem dX1_signTurned_9 : decode cX1_signTurned 9 = .ok (.arraylength, 1) := by decide +kernel
theorem dX1_signTurned_10 : decode cX1_signTurned 10 = .ok (.iconst 1, 1) := by decide +kernel
theorem dX1_signTurned_11 : decode cX1_signTurned 11 = .ok (.isub, 1) := by decide +kernel
theorem dX1_signTurned_12 : decode cX1_signTurned 12 = .ok (.aload_n 0, 1) := by decide +kernel
theorem dX1_signTurned_13 : decode cX1_signTurned 13 = .ok (.getfield 10, 3) := by decide +kernel
theorem dX1_signTurned_16 : decode cX1_signTurned 16 = .ok (.aload_n 1, 1) := by decide +kernel
theorem dX1_signTurned_17 : decode cX1_signTurned 17 = .ok (.aload_n 1, 1) := by decide +kernel
theorem dX1_signTurned_18 : decode cX1_signTurned 18 = .ok (.arraylength, 1) := by decide +kernel
theorem dX1_signTurned_19 : decode cX1_signTurned 19 = .ok (.iconst 1, 1) := by decide +kernel
theorem dX1_signTurned_20 : decode cX1_signTurned 20 = .ok (.isub, 1) := by decide +kernel
theorem dX1_signTurned_21 : decode cX1_signTurned 21 = .ok (.iaload, 1) := by decide +kernel
theorem dX1_signTurned_22 : decode cX1_signTurned 22 = .ok (.invokevirtual 16, 3) := by decide +kernel
theorem dX1_signTurned_25 : decode cX1_signTurned 25 = .ok (.iastore, 1) := by decide +kernel
theorem dX1_signTurned_26 : decode cX1_signTurned 26 = .ok (.aload_n 2, 1) := by decide +kernel
theorem dX1_signTurned_27 : decode cX1_signTurned 27 = .ok (.areturn, 1) := by decide +kernel
theorem dX2_init_0 : decode cX2_init 0 = .ok (.aload_n 0, 1) := by decide +kernel
theorem dX2_init_1 : decode cX2_init 1 = .ok (.invokespecial 1, 3) := by decide +kernel
theorem dX2_init_4 : decode cX2_init 4 = .ok (.aload_n 0, 1) := by decide +kernel
theorem dX2_init_5 : decode cX2_init 5 = .ok (.aload_n 1, 1) := by decide +kernel
theorem dX2_init_6 : decode cX2_init 6 = .ok (.putfield 7, 3) := by decide +kernel
theorem dX2_init_9 : decode cX2_init 9 = .ok (.aload_n 0, 1) := by decide +kernel
theorem dX2_init_10 : decode cX2_init 10 = .ok (.iload_n 2, 1) := by decide +kernel
theorem dX2_init_11 : decode cX2_init 11 = .ok (.putfield 13, 3) := by decide +kernel
theorem dX2_init_14 : decode cX2_init 14 = .ok (.return_, 1) := by decide +kernel
