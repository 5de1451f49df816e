theorem d_B_init_0 : decode k_B_init 0 = .ok (.aload_n 0, 1) := by decide +kernel
theorem d_B_init_1 : decode k_B_init 1 = .ok (.invokespecial 1, 3) := by decide +kernel
theorem d_B_init_4 : decode k_B_init 4 = .ok (.aload_n 0, 1) := by decide +kernel
theorem d_B_init_5 : decode k_B_init 5 = .ok (.iload_n 1, 1) := by decide +kernel
theorem d_B_init_6 : decode k_B_init 6 = .ok (.iconst 2, 1) := by decide +kernel
theorem d_B_init_7 : decode k_B_init 7 = .ok (.invokestatic 7, 3) := by decide +kernel
theorem d_B_init_10 : decode k_B_init 10 = .ok (.putfield 13, 3) := by decide +kernel
theorem d_B_init_13 : decode k_B_init 13 = .ok (.aload_n 0, 1) := by decide +kernel
theorem d_B_init_14 : decode k_B_init 14 = .ok (.iload_n 2, 1) := by decide +kernel
theorem d_B_init_15 : decode k_B_init 15 = .ok (.iconst 4, 1) := by decide +kernel
theorem d_B_init_16 : decode k_B_init 16 = .ok (.invokestatic 7, 3) := by decide +kernel
theorem d_B_init_19 : decode k_B_init 19 = .ok (.putfield 19, 3) := by decide +kernel
theorem d_B_init_22 : decode k_B_init 22 = .ok (.aload_n 0, 1) := by decide +kernel
theorem d_B_init_23 : decode k_B_init 23 = .ok (.iconst 1, 1) := by decide +kernel
theorem d_B_init_24 : decode k_B_init 24 = .ok (.aload_n 0, 1) := by decide +kernel
theorem d_B_init_25 : decode k_B_init 25 = .ok (.getfield 19, 3) := by decide +kernel
theorem d_B_init_28 : decode k_B_init 28 = .ok (.ishl, 1) := by decide +kernel
theorem d_B_init_29 : decode k_B_init 29 = .ok (.putfield 22, 3) := by decide +kernel
theorem d_B_init_32 : decode k_B_init 32 = .ok (.aload_n 0, 1) := by decide +kernel
theorem d_B_init_33 : decode k_B_init 33 = .ok (.iload_n 3, 1) := by decide +kernel
theorem d_B_init_34 : decode k_B_init 34 = .ok (.iconst 4, 1) := by decide +kernel
theorem d_B_init_35 : decode k_B_init 35 = .ok (.invokestatic 7, 3) := by decide +kernel
theorem d_B_init_38 : decode k_B_init 38 = .ok (.putfield 25, 3) := by decide +kernel
theorem d_B_init_41 : decode k_B_init 41 = .ok (.getstatic 28, 3) := by decide +kernel
theorem d_B_init_44 : decode k_B_init 44 = .ok (.invokevirtual 32, 3) := by decide +kernel
theorem d_B_init_47 : decode k_B_init 47 = .ok (.checkcast 33, 3) := by decide +kernel
theorem d_B_init_50 : decode k_B_init 50 = .ok (.astore 4, 2) := by decide +kernel
theorem d_B_init_52 : decode k_B_init 52 = .ok (.aload_n 0, 1) := by decide +kernel
theorem d_B_init_53 : decode k_B_init 53 = .ok (.aload 4, 2) := by decide +kernel
theorem d_B_init_55 : decode k_B_init 55 = .ok (.putfield 37, 3) := by decide +kernel
theorem d_B_init_58 : decode k_B_init 58 = .ok (.iconst 1, 1) := by decide +kernel
theorem d_B_init_59 : decode k_B_init 59 = .ok (.aload_n 0, 1) := by decide +kernel
theorem d_B_init_60 : decode k_B_init 60 = .ok (.getfield 13, 3) := by decide +kernel
theorem d_B_init_63 : decode k_B_init 63 = .ok (.iadd, 1) := by decide +kernel
theorem d_B_init_64 : decode k_B_init 64 = .ok (.istore 5, 2) := by decide +kernel
theorem d_B_init_66 : decode k_B_init 66 = .ok (.aload_n 0, 1) := by decide +kernel
theorem d_B_init_67 : decode k_B_init 67 = .ok (.iload 5, 2) := by decide +kernel
theorem d_B_init_69 : decode k_B_init 69 = .ok (.anewarray 40, 3) := by decide +kernel
theorem d_B_init_72 : decode k_B_init 72 = .ok (.putfield 42, 3) := by decide +kernel
theorem d_B_init_75 : decode k_B_init 75 = .ok (.aload_n 0, 1) := by decide +kernel
theorem d_B_init_76 : decode k_B_init 76 = .ok (.iload 5, 2) := by decide +kernel
theorem d_B_init_78 : decode k_B_init 78 = .ok (.anewarray 46, 3) := by decide +kernel
theorem d_B_init_81 : decode k_B_init 81 = .ok (.putfield 48, 3) := by decide +kernel
theorem d_B_init_84 : decode k_B_init 84 = .ok (.iconst 0, 1) := by decide +kernel
theorem d_B_init_85 : decode k_B_init 85 = .ok (.istore 6, 2) := by decide +kernel
theorem d_B_init_87 : decode k_B_init 87 = .ok (.iload 6, 2) := by decide +kernel
theorem d_B_init_89 : decode k_B_init 89 = .ok (.iload 5, 2) := by decide +kernel
theorem d_B_init_91 : decode k_B_init 91 = .ok (.if_icmp .ge 49, 3) := by decide +kernel
theorem d_B_init_94 : decode k_B_init 94 = .ok (.aload_n 0, 1) := by decide +kernel
theorem d_B_init_95 : decode k_B_init 95 = .ok (.getfield 42, 3) := by decide +kernel
theorem d_B_init_98 : decode k_B_init 98 = .ok (.iload 6, 2) := by decide +kernel
theorem d_B_init_100 : decode k_B_init 100 = .ok (.new 40, 3) := by decide +kernel
theorem d_B_init_103 : decode k_B_init 103 = .ok (.dup, 1) := by decide +kernel
theorem d_B_init_104 : decode k_B_init 104 = .ok (.aload_n 0, 1) := by decide +kernel
theorem d_B_init_105 : decode k_B_init 105 = .ok (.getfield 22, 3) := by decide +kernel
theorem d_B_init_108 : decode k_B_init 108 = .ok (.aload 4, 2) := by decide +kernel
theorem d_B_init_110 : decode k_B_init 110 = .ok (.invokespecial 52, 3) := by decide +kernel
theorem d_B_init_113 : decode k_B_init 113 = .ok (.aastore, 1) := by decide +kernel
theorem d_B_init_114 : decode k_B_init 114 = .ok (.aload_n 0, 1) := by decide +kernel
theorem d_B_init_115 : decode k_B_init 115 = .ok (.getfield 48, 3) := by decide +kernel
theorem d_B_init_118 : decode k_B_init 118 = .ok (.iload 6, 2) := by decide +kernel
theorem d_B_init_120 : decode k_B_init 120 = .ok (.new 46, 3) := by decide +kernel
theorem d_B_init_123 : decode k_B_init 123 = .ok (.dup, 1) := by decide +kernel
theorem d_B_init_124 : decode k_B_init 124 = .ok (.aload_n 0, 1) := by decide +kernel
theorem d_B_init_125 : decode k_B_init 125 = .ok (.getfield 22, 3) := by decide +kernel
theorem d_B_init_128 : decode k_B_init 128 = .ok (.aload 4, 2) := by decide +kernel
theorem d_B_init_130 : decode k_B_init 130 = .ok (.invokespecial 55, 3) := by decide +kernel
theorem d_B_init_133 : decode k_B_init 133 = .ok (.aastore, 1) := by decide +kernel
theorem d_B_init_134 : decode k_B_init 134 = .ok (.iinc 6 1, 3) := by decide +kernel
theorem d_B_init_137 : decode k_B_init 137 = .ok (.goto (-50), 3) := by decide +kernel
theorem d_B_init_140 : decode k_B_init 140 = .ok (.aload_n 0, 1) := by decide +kernel
theorem d_B_init_141 : decode k_B_init 141 = .ok (.new 56, 3) := by decide +kernel
theorem d_B_init_144 : decode k_B_init 144 = .ok (.dup, 1) := by decide +kernel
theorem d_B_init_145 : decode k_B_init 145 = .ok (.invokespecial 58, 3) := by decide +kernel
theorem d_B_init_148 : decode k_B_init 148 = .ok (.putfield 59, 3) := by decide +kernel
theorem d_B_init_151 : decode k_B_init 151 = .ok (.aload_n 0, 1) := by decide +kernel
theorem d_B_init_152 : decode k_B_init 152 = .ok (.sipush 512, 3) := by decide +kernel
theorem d_B_init_155 : decode k_B_init 155 = .ok (.newarray .int, 2) := by decide +kernel
theorem d_B_init_157 : decode k_B_init 157 = .ok (.putfield 63, 3) := by decide +kernel
theorem d_B_init_160 : decode k_B_init 160 = .ok (.return_, 1) := by decide +kernel
theorem d_B_time_0 : decode k_B_time 0 = .ok (.iload_n 1, 1) := by decide +kernel
theorem d_B_time_1 : decode k_B_time 1 = .ok (.ifCond .lt 12, 3) := by decide +kernel
theorem d_B_time_4 : decode k_B_time 4 = .ok (.iload_n 1, 1) := by decide +kernel
theorem d_B_time_5 : decode k_B_time 5 = .ok (.aload_n 0, 1) := by decide +kernel
theorem d_B_time_6 : decode k_B_time 6 = .ok (.getfield 37, 3) := by decide +kernel
theorem d_B_time_9 : decode k_B_time 9 = .ok (.arraylength, 1) := by decide +kernel
theorem d_B_time_10 : decode k_B_time 10 = .ok (.if_icmp .lt 13, 3) := by decide +kernel
theorem d_B_time_13 : decode k_B_time 13 = .ok (.new 66, 3) := by decide +kernel
theorem d_B_time_16 : decode k_B_time 16 = .ok (.dup, 1) := by decide +kernel
theorem d_B_time_17 : decode k_B_time 17 = .ok (.ldc 68, 2) := by decide +kernel
theorem d_B_time_19 : decode k_B_time 19 = .ok (.invokespecial 70, 3) := by decide +kernel
theorem d_B_time_22 : decode k_B_time 22 = .ok (.athrow, 1) := by decide +kernel
theorem d_B_time_23 : decode k_B_time 23 = .ok (.iload_n 2, 1) := by decide +kernel
theorem d_B_time_24 : decode k_B_time 24 = .ok (.iconst 1, 1) := by decide +kernel
theorem d_B_time_25 : decode k_B_time 25 = .ok (.if_icmp .lt 9, 3) := by decide +kernel
theorem d_B_time_28 : decode k_B_time 28 = .ok (.iload_n 2, 1) := by decide +kernel
theorem d_B_time_29 : decode k_B_time 29 = .ok (.bipush 100, 2) := by decide +kernel
theorem d_B_time_31 : decode k_B_time 31 = .ok (.if_icmp .le 13, 3) := by decide +kernel
theorem d_B_time_34 : decode k_B_time 34 = .ok (.new 73, 3) := by decide +kernel
theorem d_B_time_37 : decode k_B_time 37 = .ok (.dup, 1) := by decide +kernel
theorem d_B_time_38 : decode k_B_time 38 = .ok (.ldc 75, 2) := by decide +kernel
theorem d_B_time_40 : decode k_B_time 40 = .ok (.invokespecial 77, 3) := by decide +kernel
theorem d_B_time_43 : decode k_B_time 43 = .ok (.athrow, 1) := by decide +kernel
theorem d_B_time_44 : decode k_B_time 44 = .ok (.aload_n 0, 1) := by decide +kernel
theorem d_B_time_45 : decode k_B_time 45 = .ok (.getfield 78, 3) := by decide +kernel
theorem d_B_time_48 : decode k_B_time 48 = .ok (.aload_n 0, 1) := by decide +kernel
theorem d_B_time_49 : decode k_B_time 49 = .ok (.getfield 81, 3) := by decide +kernel
theorem d_B_time_52 : decode k_B_time 52 = .ok (.if_icmp .lt 10, 3) := by decide +kernel
theorem d_B_time_55 : decode k_B_time 55 = .ok (.aload_n 0, 1) := by decide +kernel
theorem d_B_time_56 : decode k_B_time 56 = .ok (.invokevirtual 84, 3) := by decide +kernel
theorem d_B_time_59 : decode k_B_time 59 = .ok (.ifCond .eq 13, 3) := by decide +kernel
theorem d_B_time_62 : decode k_B_time 62 = .ok (.new 88, 3) := by decide +kernel
theorem d_B_time_65 : decode k_B_time 65 = .ok (.dup, 1) := by decide +kernel
theorem d_B_time_66 : decode k_B_time 66 = .ok (.ldc 90, 2) := by decide +kernel
theorem d_B_time_68 : decode k_B_time 68 = .ok (.invokespecial 92, 3) := by decide +kernel
theorem d_B_time_71 : decode k_B_time 71 = .ok (.athrow, 1) := by decide +kernel
theorem d_B_time_72 : decode k_B_time 72 = .ok (.aload_n 0, 1) := by decide +kernel
theorem d_B_time_73 : decode k_B_time 73 = .ok (.getfield 37, 3) := by decide +kernel
theorem d_B_time_76 : decode k_B_time 76 = .ok (.iload_n 1, 1) := by decide +kernel
theorem d_B_time_77 : decode k_B_time 77 = .ok (.iaload, 1) := by decide +kernel
theorem d_B_time_78 : decode k_B_time 78 = .ok (.istore_n 3, 1) := by decide +kernel
theorem d_B_time_79 : decode k_B_time 79 = .ok (.aload_n 0, 1) := by decide +kernel
theorem d_B_time_80 : decode k_B_time 80 = .ok (.getfield 37, 3) := by decide +kernel
theorem d_B_time_83 : decode k_B_time 83 = .ok (.iload_n 1, 1) := by decide +kernel
theorem d_B_time_84 : decode k_B_time 84 = .ok (.iload_n 2, 1) := by decide +kernel
theorem d_B_time_85 : decode k_B_time 85 = .ok (.iastore, 1) := by decide +kernel
theorem d_B_time_86 : decode k_B_time 86 = .ok (.iload_n 3, 1) := by decide +kernel
theorem d_B_time_87 : decode k_B_time 87 = .ok (.ireturn, 1) := by decide +kernel
theorem d_B_span_0 : decode k_B_span 0 = .ok (.iload_n 1, 1) := by decide +kernel
theorem d_B_span_1 : decode k_B_span 1 = .ok (.ifCond .eq 26, 3) := by decide +kernel
theorem d_B_span_4 : decode k_B_span 4 = .ok (.iload_n 1, 1) := by decide +kernel
theorem d_B_span_5 : decode k_B_span 5 = .ok (.bipush 50, 2) := by decide +kernel
theorem d_B_span_7 : decode k_B_span 7 = .ok (.if_icmp .lt 10, 3) := by decide +kernel
theorem d_B_span_10 : decode k_B_span 10 = .ok (.iload_n 1, 1) := by decide +kernel
theorem d_B_span_11 : decode k_B_span 11 = .ok (.sipush 10000, 3) := by decide +kernel
theorem d_B_span_14 : decode k_B_span 14 = .ok (.if_icmp .le 13, 3) := by decide +kernel
theorem d_B_span_17 : decode k_B_span 17 = .ok (.new 73, 3) := by decide +kernel
theorem d_B_span_20 : decode k_B_span 20 = .ok (.dup, 1) := by decide +kernel
theorem d_B_span_21 : decode k_B_span 21 = .ok (.ldc 93, 2) := by decide +kernel
theorem d_B_span_23 : decode k_B_span 23 = .ok (.invokespecial 77, 3) := by decide +kernel
theorem d_B_span_26 : decode k_B_span 26 = .ok (.athrow, 1) := by decide +kernel
theorem d_B_span_27 : decode k_B_span 27 = .ok (.aload_n 0, 1) := by decide +kernel
theorem d_B_span_28 : decode k_B_span 28 = .ok (.getfield 95, 3) := by decide +kernel
theorem d_B_span_31 : decode k_B_span 31 = .ok (.istore_n 2, 1) := by decide +kernel
theorem d_B_span_32 : decode k_B_span 32 = .ok (.aload_n 0, 1) := by decide +kernel
theorem d_B_span_33 : decode k_B_span 33 = .ok (.iload_n 1, 1) := by decide +kernel
theorem d_B_span_34 : decode k_B_span 34 = .ok (.putfield 95, 3) := by decide +kernel
theorem d_B_span_37 : decode k_B_span 37 = .ok (.iload_n 2, 1) := by decide +kernel
theorem d_B_span_38 : decode k_B_span 38 = .ok (.ireturn, 1) := by decide +kernel
theorem d_B_ask_0 : decode k_B_ask 0 = .ok (.iload_n 1, 1) := by decide +kernel
theorem d_B_ask_1 : decode k_B_ask 1 = .ok (.invokestatic 98, 3) := by decide +kernel
theorem d_B_ask_4 : decode k_B_ask 4 = .ok (.ifCond .ne 13, 3) := by decide +kernel
theorem d_B_ask_7 : decode k_B_ask 7 = .ok (.new 73, 3) := by decide +kernel
theorem d_B_ask_10 : decode k_B_ask 10 = .ok (.dup, 1) := by decide +kernel
theorem d_B_ask_11 : decode k_B_ask 11 = .ok (.ldc 102, 2) := by decide +kernel
theorem d_B_ask_13 : decode k_B_ask 13 = .ok (.invokespecial 77, 3) := by decide +kernel
theorem d_B_ask_16 : decode k_B_ask 16 = .ok (.athrow, 1) := by decide +kernel
theorem d_B_ask_17 : decode k_B_ask 17 = .ok (.aload_n 0, 1) := by decide +kernel
theorem d_B_ask_18 : decode k_B_ask 18 = .ok (.getfield 42, 3) := by decide +kernel
theorem d_B_ask_21 : decode k_B_ask 21 = .ok (.aload_n 0, 1) := by decide +kernel
theorem d_B_ask_22 : decode k_B_ask 22 = .ok (.iload_n 1, 1) := by decide +kernel
theorem d_B_ask_23 : decode k_B_ask 23 = .ok (.invokevirtual 104, 3) := by decide +kernel
theorem d_B_ask_26 : decode k_B_ask 26 = .ok (.aaload, 1) := by decide +kernel
theorem d_B_ask_27 : decode k_B_ask 27 = .ok (.getfield 108, 3) := by decide +kernel
theorem d_B_ask_30 : decode k_B_ask 30 = .ok (.astore_n 3, 1) := by decide +kernel
theorem d_B_ask_31 : decode k_B_ask 31 = .ok (.aload_n 3, 1) := by decide +kernel
theorem d_B_ask_32 : decode k_B_ask 32 = .ok (.invokevirtual 112, 3) := by decide +kernel
theorem d_B_ask_35 : decode k_B_ask 35 = .ok (.ifCond .ne 13, 3) := by decide +kernel
theorem d_B_ask_38 : decode k_B_ask 38 = .ok (.aload_n 0, 1) := by decide +kernel
theorem d_B_ask_39 : decode k_B_ask 39 = .ok (.getfield 81, 3) := by decide +kernel
theorem d_B_ask_42 : decode k_B_ask 42 = .ok (.sipush 512, 3) := by decide +kernel
theorem d_B_ask_45 : decode k_B_ask 45 = .ok (.if_icmp .lt 13, 3) := by decide +kernel
theorem d_B_ask_48 : decode k_B_ask 48 = .ok (.new 117, 3) := by decide +kernel
theorem d_B_ask_51 : decode k_B_ask 51 = .ok (.dup, 1) := by decide +kernel
theorem d_B_ask_52 : decode k_B_ask 52 = .ok (.ldc 119, 2) := by decide +kernel
theorem d_B_ask_54 : decode k_B_ask 54 = .ok (.invokespecial 121, 3) := by decide +kernel
theorem d_B_ask_57 : decode k_B_ask 57 = .ok (.athrow, 1) := by decide +kernel
theorem d_B_ask_58 : decode k_B_ask 58 = .ok (.aload_n 0, 1) := by decide +kernel
theorem d_B_ask_59 : decode k_B_ask 59 = .ok (.getfield 81, 3) := by decide +kernel
theorem d_B_ask_62 : decode k_B_ask 62 = .ok (.istore 4, 2) := by decide +kernel
theorem d_B_ask_64 : decode k_B_ask 64 = .ok (.aload_n 3, 1) := by decide +kernel
theorem d_B_ask_65 : decode k_B_ask 65 = .ok (.iload 4, 2) := by decide +kernel
theorem d_B_ask_67 : decode k_B_ask 67 = .ok (.aload_n 0, 1) := by decide +kernel
theorem d_B_ask_68 : decode k_B_ask 68 = .ok (.getfield 122, 3) := by decide +kernel
theorem d_B_ask_71 : decode k_B_ask 71 = .ok (.aload_n 0, 1) := by decide +kernel
theorem d_B_ask_72 : decode k_B_ask 72 = .ok (.iload_n 1, 1) := by decide +kernel
theorem d_B_ask_73 : decode k_B_ask 73 = .ok (.invokevirtual 125, 3) := by decide +kernel
theorem d_B_ask_76 : decode k_B_ask 76 = .ok (.aload_n 0, 1) := by decide +kernel
theorem d_B_ask_77 : decode k_B_ask 77 = .ok (.iload_n 1, 1) := by decide +kernel
theorem d_B_ask_78 : decode k_B_ask 78 = .ok (.invokevirtual 128, 3) := by decide +kernel
theorem d_B_ask_81 : decode k_B_ask 81 = .ok (.iload_n 2, 1) := by decide +kernel
theorem d_B_ask_82 : decode k_B_ask 82 = .ok (.invokevirtual 131, 3) := by decide +kernel
theorem d_B_ask_85 : decode k_B_ask 85 = .ok (.aload_n 0, 1) := by decide +kernel
theorem d_B_ask_86 : decode k_B_ask 86 = .ok (.getfield 63, 3) := by decide +kernel
theorem d_B_ask_89 : decode k_B_ask 89 = .ok (.iload 4, 2) := by decide +kernel
theorem d_B_ask_91 : decode k_B_ask 91 = .ok (.iconst (-1), 1) := by decide +kernel
theorem d_B_ask_92 : decode k_B_ask 92 = .ok (.iastore, 1) := by decide +kernel
theorem d_B_ask_93 : decode k_B_ask 93 = .ok (.aload_n 0, 1) := by decide +kernel
theorem d_B_ask_94 : decode k_B_ask 94 = .ok (.dup, 1) := by decide +kernel
theorem d_B_ask_95 : decode k_B_ask 95 = .ok (.getfield 81, 3) := by decide +kernel
theorem d_B_ask_98 : decode k_B_ask 98 = .ok (.iconst 1, 1) := by decide +kernel
theorem d_B_ask_99 : decode k_B_ask 99 = .ok (.iadd, 1) := by decide +kernel
theorem d_B_ask_100 : decode k_B_ask 100 = .ok (.putfield 81, 3) := by decide +kernel
theorem d_B_ask_103 : decode k_B_ask 103 = .ok (.iload 4, 2) := by decide +kernel
theorem d_B_ask_105 : decode k_B_ask 105 = .ok (.ireturn, 1) := by decide +kernel
theorem d_B_run_0 : decode k_B_run 0 = .ok (.iload_n 1, 1) := by decide +kernel
theorem d_B_run_1 : decode k_B_run 1 = .ok (.iconst 1, 1) := by decide +kernel
theorem d_B_run_2 : decode k_B_run 2 = .ok (.if_icmp .lt 10, 3) := by decide +kernel
theorem d_B_run_5 : decode k_B_run 5 = .ok (.iload_n 1, 1) := by decide +kernel
theorem d_B_run_6 : decode k_B_run 6 = .ok (.sipush 1000, 3) := by decide +kernel
theorem d_B_run_9 : decode k_B_run 9 = .ok (.if_icmp .le 13, 3) := by decide +kernel
theorem d_B_run_12 : decode k_B_run 12 = .ok (.new 73, 3) := by decide +kernel
theorem d_B_run_15 : decode k_B_run 15 = .ok (.dup, 1) := by decide +kernel
theorem d_B_run_16 : decode k_B_run 16 = .ok (.ldc 135, 2) := by decide +kernel
theorem d_B_run_18 : decode k_B_run 18 = .ok (.invokespecial 77, 3) := by decide +kernel
theorem d_B_run_21 : decode k_B_run 21 = .ok (.athrow, 1) := by decide +kernel
theorem d_B_run_22 : decode k_B_run 22 = .ok (.aload_n 0, 1) := by decide +kernel
theorem d_B_run_23 : decode k_B_run 23 = .ok (.getfield 78, 3) := by decide +kernel
theorem d_B_run_26 : decode k_B_run 26 = .ok (.istore_n 2, 1) := by decide +kernel
theorem d_B_run_27 : decode k_B_run 27 = .ok (.iconst 0, 1) := by decide +kernel
theorem d_B_run_28 : decode k_B_run 28 = .ok (.istore_n 3, 1) := by decide +kernel
theorem d_B_run_29 : decode k_B_run 29 = .ok (.iload_n 3, 1) := by decide +kernel
theorem d_B_run_30 : decode k_B_run 30 = .ok (.iload_n 1, 1) := by decide +kernel
theorem d_B_run_31 : decode k_B_run 31 = .ok (.if_icmp .ge 13, 3) := by decide +kernel
theorem d_B_run_34 : decode k_B_run 34 = .ok (.aload_n 0, 1) := by decide +kernel
theorem d_B_run_35 : decode k_B_run 35 = .ok (.invokevirtual 137, 3) := by decide +kernel
theorem d_B_run_38 : decode k_B_run 38 = .ok (.iinc 3 1, 3) := by decide +kernel
theorem d_B_run_41 : decode k_B_run 41 = .ok (.goto (-12), 3) := by decide +kernel
theorem d_B_run_44 : decode k_B_run 44 = .ok (.aload_n 0, 1) := by decide +kernel
theorem d_B_run_45 : decode k_B_run 45 = .ok (.getfield 78, 3) := by decide +kernel
theorem d_B_run_48 : decode k_B_run 48 = .ok (.iload_n 2, 1) := by decide +kernel
theorem d_B_run_49 : decode k_B_run 49 = .ok (.isub, 1) := by decide +kernel
theorem d_B_run_50 : decode k_B_run 50 = .ok (.ireturn, 1) := by decide +kernel
theorem d_B_done_0 : decode k_B_done 0 = .ok (.iload_n 1, 1) := by decide +kernel
theorem d_B_done_1 : decode k_B_done 1 = .ok (.ifCond .lt 11, 3) := by decide +kernel
theorem d_B_done_4 : decode k_B_done 4 = .ok (.iload_n 1, 1) := by decide +kernel
theorem d_B_done_5 : decode k_B_done 5 = .ok (.aload_n 0, 1) := by decide +kernel
theorem d_B_done_6 : decode k_B_done 6 = .ok (.getfield 81, 3) := by decide +kernel
theorem d_B_done_9 : decode k_B_done 9 = .ok (.if_icmp .lt 13, 3) := by decide +kernel
theorem d_B_done_12 : decode k_B_done 12 = .ok (.new 66, 3) := by decide +kernel
theorem d_B_done_15 : decode k_B_done 15 = .ok (.dup, 1) := by decide +kernel
theorem d_B_done_16 : decode k_B_done 16 = .ok (.ldc 140, 2) := by decide +kernel
theorem d_B_done_18 : decode k_B_done 18 = .ok (.invokespecial 70, 3) := by decide +kernel
theorem d_B_done_21 : decode k_B_done 21 = .ok (.athrow, 1) := by decide +kernel
theorem d_B_done_22 : decode k_B_done 22 = .ok (.aload_n 0, 1) := by decide +kernel
theorem d_B_done_23 : decode k_B_done 23 = .ok (.getfield 63, 3) := by decide +kernel
theorem d_B_done_26 : decode k_B_done 26 = .ok (.iload_n 1, 1) := by decide +kernel
theorem d_B_done_27 : decode k_B_done 27 = .ok (.iaload, 1) := by decide +kernel
theorem d_B_done_28 : decode k_B_done 28 = .ok (.ireturn, 1) := by decide +kernel
theorem d_B_command_0 : decode k_B_command 0 = .ok (.iload_n 1, 1) := by decide +kernel
theorem d_B_command_1 : decode k_B_command 1 = .ok (.ifCond .lt 23, 3) := by decide +kernel
theorem d_B_command_4 : decode k_B_command 4 = .ok (.iload_n 1, 1) := by decide +kernel
theorem d_B_command_5 : decode k_B_command 5 = .ok (.aload_n 0, 1) := by decide +kernel
theorem d_B_command_6 : decode k_B_command 6 = .ok (.getfield 59, 3) := by decide +kernel
theorem d_B_command_9 : decode k_B_command 9 = .ok (.getfield 142, 3) := by decide +kernel
theorem d_B_command_12 : decode k_B_command 12 = .ok (.if_icmp .ge 12, 3) := by decide +kernel
theorem d_B_command_15 : decode k_B_command 15 = .ok (.iload_n 2, 1) := by decide +kernel
theorem d_B_command_16 : decode k_B_command 16 = .ok (.ifCond .lt 8, 3) := by decide +kernel
theorem d_B_command_19 : decode k_B_command 19 = .ok (.iload_n 2, 1) := by decide +kernel
theorem d_B_command_20 : decode k_B_command 20 = .ok (.iconst 5, 1) := by decide +kernel
theorem d_B_command_21 : decode k_B_command 21 = .ok (.if_icmp .lt 13, 3) := by decide +kernel
theorem d_B_command_24 : decode k_B_command 24 = .ok (.new 66, 3) := by decide +kernel
theorem d_B_command_27 : decode k_B_command 27 = .ok (.dup, 1) := by decide +kernel
theorem d_B_command_28 : decode k_B_command 28 = .ok (.ldc 145, 2) := by decide +kernel
theorem d_B_command_30 : decode k_B_command 30 = .ok (.invokespecial 70, 3) := by decide +kernel
theorem d_B_command_33 : decode k_B_command 33 = .ok (.athrow, 1) := by decide +kernel
theorem d_B_command_34 : decode k_B_command 34 = .ok (.aload_n 0, 1) := by decide +kernel
theorem d_B_command_35 : decode k_B_command 35 = .ok (.getfield 59, 3) := by decide +kernel
theorem d_B_command_38 : decode k_B_command 38 = .ok (.iload_n 1, 1) := by decide +kernel
theorem d_B_command_39 : decode k_B_command 39 = .ok (.iload_n 2, 1) := by decide +kernel
theorem d_B_command_40 : decode k_B_command 40 = .ok (.invokevirtual 147, 3) := by decide +kernel
theorem d_B_command_43 : decode k_B_command 43 = .ok (.ireturn, 1) := by decide +kernel
theorem d_B_open_0 : decode k_B_open 0 = .ok (.iload_n 1, 1) := by decide +kernel
theorem d_B_open_1 : decode k_B_open 1 = .ok (.ifCond .lt 24, 3) := by decide +kernel
theorem d_B_open_4 : decode k_B_open 4 = .ok (.iload_n 1, 1) := by decide +kernel
theorem d_B_open_5 : decode k_B_open 5 = .ok (.aload_n 0, 1) := by decide +kernel
theorem d_B_open_6 : decode k_B_open 6 = .ok (.getfield 42, 3) := by decide +kernel
theorem d_B_open_9 : decode k_B_open 9 = .ok (.arraylength, 1) := by decide +kernel
theorem d_B_open_10 : decode k_B_open 10 = .ok (.if_icmp .ge 15, 3) := by decide +kernel
theorem d_B_open_13 : decode k_B_open 13 = .ok (.iload_n 2, 1) := by decide +kernel
theorem d_B_open_14 : decode k_B_open 14 = .ok (.ifCond .lt 11, 3) := by decide +kernel
theorem d_B_open_17 : decode k_B_open 17 = .ok (.iload_n 2, 1) := by decide +kernel
theorem d_B_open_18 : decode k_B_open 18 = .ok (.aload_n 0, 1) := by decide +kernel
theorem d_B_open_19 : decode k_B_open 19 = .ok (.getfield 22, 3) := by decide +kernel
theorem d_B_open_22 : decode k_B_open 22 = .ok (.if_icmp .lt 13, 3) := by decide +kernel
theorem d_B_open_25 : decode k_B_open 25 = .ok (.new 66, 3) := by decide +kernel
theorem d_B_open_28 : decode k_B_open 28 = .ok (.dup, 1) := by decide +kernel
theorem d_B_open_29 : decode k_B_open 29 = .ok (.ldc 150, 2) := by decide +kernel
theorem d_B_open_31 : decode k_B_open 31 = .ok (.invokespecial 70, 3) := by decide +kernel
theorem d_B_open_34 : decode k_B_open 34 = .ok (.athrow, 1) := by decide +kernel
theorem d_B_open_35 : decode k_B_open 35 = .ok (.aload_n 0, 1) := by decide +kernel
theorem d_B_open_36 : decode k_B_open 36 = .ok (.getfield 42, 3) := by decide +kernel
theorem d_B_open_39 : decode k_B_open 39 = .ok (.iload_n 1, 1) := by decide +kernel
theorem d_B_open_40 : decode k_B_open 40 = .ok (.aaload, 1) := by decide +kernel
theorem d_B_open_41 : decode k_B_open 41 = .ok (.getfield 152, 3) := by decide +kernel
theorem d_B_open_44 : decode k_B_open 44 = .ok (.getfield 156, 3) := by decide +kernel
theorem d_B_open_47 : decode k_B_open 47 = .ok (.iload_n 2, 1) := by decide +kernel
theorem d_B_open_48 : decode k_B_open 48 = .ok (.iaload, 1) := by decide +kernel
theorem d_B_open_49 : decode k_B_open 49 = .ok (.ireturn, 1) := by decide +kernel
theorem d_B_part_0 : decode k_B_part 0 = .ok (.iload_n 1, 1) := by decide +kernel
theorem d_B_part_1 : decode k_B_part 1 = .ok (.invokestatic 98, 3) := by decide +kernel
theorem d_B_part_4 : decode k_B_part 4 = .ok (.ifCond .ne 13, 3) := by decide +kernel
theorem d_B_part_7 : decode k_B_part 7 = .ok (.new 73, 3) := by decide +kernel
theorem d_B_part_10 : decode k_B_part 10 = .ok (.dup, 1) := by decide +kernel
theorem d_B_part_11 : decode k_B_part 11 = .ok (.ldc 102, 2) := by decide +kernel
theorem d_B_part_13 : decode k_B_part 13 = .ok (.invokespecial 77, 3) := by decide +kernel
theorem d_B_part_16 : decode k_B_part 16 = .ok (.athrow, 1) := by decide +kernel
theorem d_B_part_17 : decode k_B_part 17 = .ok (.iload_n 2, 1) := by decide +kernel
theorem d_B_part_18 : decode k_B_part 18 = .ok (.tableswitch 53 0 3 #[30, 36, 42, 48], 30) := by decide +kernel
theorem d_B_part_48 : decode k_B_part 48 = .ok (.aload_n 0, 1) := by decide +kernel
theorem d_B_part_49 : decode k_B_part 49 = .ok (.iload_n 1, 1) := by decide +kernel
theorem d_B_part_50 : decode k_B_part 50 = .ok (.invokevirtual 104, 3) := by decide +kernel
theorem d_B_part_53 : decode k_B_part 53 = .ok (.ireturn, 1) := by decide +kernel
theorem d_B_part_54 : decode k_B_part 54 = .ok (.aload_n 0, 1) := by decide +kernel
theorem d_B_part_55 : decode k_B_part 55 = .ok (.iload_n 1, 1) := by decide +kernel
theorem d_B_part_56 : decode k_B_part 56 = .ok (.invokevirtual 125, 3) := by decide +kernel
theorem d_B_part_59 : decode k_B_part 59 = .ok (.ireturn, 1) := by decide +kernel
theorem d_B_part_60 : decode k_B_part 60 = .ok (.aload_n 0, 1) := by decide +kernel
theorem d_B_part_61 : decode k_B_part 61 = .ok (.iload_n 1, 1) := by decide +kernel
theorem d_B_part_62 : decode k_B_part 62 = .ok (.invokevirtual 128, 3) := by decide +kernel
theorem d_B_part_65 : decode k_B_part 65 = .ok (.ireturn, 1) := by decide +kernel
theorem d_B_part_66 : decode k_B_part 66 = .ok (.iload_n 1, 1) := by decide +kernel
theorem d_B_part_67 : decode k_B_part 67 = .ok (.bipush 15, 2) := by decide +kernel
theorem d_B_part_69 : decode k_B_part 69 = .ok (.iand, 1) := by decide +kernel
theorem d_B_part_70 : decode k_B_part 70 = .ok (.ireturn, 1) := by decide +kernel
theorem d_B_part_71 : decode k_B_part 71 = .ok (.new 73, 3) := by decide +kernel
theorem d_B_part_74 : decode k_B_part 74 = .ok (.dup, 1) := by decide +kernel
theorem d_B_part_75 : decode k_B_part 75 = .ok (.ldc 159, 2) := by decide +kernel
theorem d_B_part_77 : decode k_B_part 77 = .ok (.invokespecial 77, 3) := by decide +kernel
theorem d_B_part_80 : decode k_B_part 80 = .ok (.athrow, 1) := by decide +kernel
theorem d_B_begin_0 : decode k_B_begin 0 = .ok (.iconst 0, 1) := by decide +kernel
theorem d_B_begin_1 : decode k_B_begin 1 = .ok (.istore_n 1, 1) := by decide +kernel
theorem d_B_begin_2 : decode k_B_begin 2 = .ok (.iload_n 1, 1) := by decide +kernel
theorem d_B_begin_3 : decode k_B_begin 3 = .ok (.aload_n 0, 1) := by decide +kernel
theorem d_B_begin_4 : decode k_B_begin 4 = .ok (.getfield 48, 3) := by decide +kernel
theorem d_B_begin_7 : decode k_B_begin 7 = .ok (.arraylength, 1) := by decide +kernel
theorem d_B_begin_8 : decode k_B_begin 8 = .ok (.if_icmp .ge 18, 3) := by decide +kernel
theorem d_B_begin_11 : decode k_B_begin 11 = .ok (.aload_n 0, 1) := by decide +kernel
theorem d_B_begin_12 : decode k_B_begin 12 = .ok (.getfield 48, 3) := by decide +kernel
theorem d_B_begin_15 : decode k_B_begin 15 = .ok (.iload_n 1, 1) := by decide +kernel
theorem d_B_begin_16 : decode k_B_begin 16 = .ok (.aaload, 1) := by decide +kernel
theorem d_B_begin_17 : decode k_B_begin 17 = .ok (.invokevirtual 161, 3) := by decide +kernel
theorem d_B_begin_20 : decode k_B_begin 20 = .ok (.iinc 1 1, 3) := by decide +kernel
theorem d_B_begin_23 : decode k_B_begin 23 = .ok (.goto (-21), 3) := by decide +kernel
theorem d_B_begin_26 : decode k_B_begin 26 = .ok (.return_, 1) := by decide +kernel
theorem d_B_check_0 : decode k_B_check 0 = .ok (.iload_n 1, 1) := by decide +kernel
theorem d_B_check_1 : decode k_B_check 1 = .ok (.ifCond .lt 21, 3) := by decide +kernel
theorem d_B_check_4 : decode k_B_check 4 = .ok (.iload_n 1, 1) := by decide +kernel
theorem d_B_check_5 : decode k_B_check 5 = .ok (.aload_n 0, 1) := by decide +kernel
theorem d_B_check_6 : decode k_B_check 6 = .ok (.getfield 48, 3) := by decide +kernel
theorem d_B_check_9 : decode k_B_check 9 = .ok (.arraylength, 1) := by decide +kernel
theorem d_B_check_10 : decode k_B_check 10 = .ok (.if_icmp .ge 12, 3) := by decide +kernel
theorem d_B_check_13 : decode k_B_check 13 = .ok (.iload_n 3, 1) := by decide +kernel
theorem d_B_check_14 : decode k_B_check 14 = .ok (.ifCond .lt 8, 3) := by decide +kernel
theorem d_B_check_17 : decode k_B_check 17 = .ok (.iload_n 3, 1) := by decide +kernel
theorem d_B_check_18 : decode k_B_check 18 = .ok (.iconst 5, 1) := by decide +kernel
theorem d_B_check_19 : decode k_B_check 19 = .ok (.if_icmp .lt 13, 3) := by decide +kernel
theorem d_B_check_22 : decode k_B_check 22 = .ok (.new 73, 3) := by decide +kernel
theorem d_B_check_25 : decode k_B_check 25 = .ok (.dup, 1) := by decide +kernel
theorem d_B_check_26 : decode k_B_check 26 = .ok (.ldc 164, 2) := by decide +kernel
theorem d_B_check_28 : decode k_B_check 28 = .ok (.invokespecial 77, 3) := by decide +kernel
theorem d_B_check_31 : decode k_B_check 31 = .ok (.athrow, 1) := by decide +kernel
theorem d_B_check_32 : decode k_B_check 32 = .ok (.iload 4, 2) := by decide +kernel
theorem d_B_check_34 : decode k_B_check 34 = .ok (.ifCond .lt 28, 3) := by decide +kernel
theorem d_B_check_37 : decode k_B_check 37 = .ok (.iload 4, 2) := by decide +kernel
theorem d_B_check_39 : decode k_B_check 39 = .ok (.aload_n 0, 1) := by decide +kernel
theorem d_B_check_40 : decode k_B_check 40 = .ok (.getfield 22, 3) := by decide +kernel
theorem d_B_check_43 : decode k_B_check 43 = .ok (.if_icmp .ge 19, 3) := by decide +kernel
theorem d_B_check_46 : decode k_B_check 46 = .ok (.iload_n 2, 1) := by decide +kernel
theorem d_B_check_47 : decode k_B_check 47 = .ok (.ifCond .lt 15, 3) := by decide +kernel
theorem d_B_check_50 : decode k_B_check 50 = .ok (.iload 5, 2) := by decide +kernel
theorem d_B_check_52 : decode k_B_check 52 = .ok (.ifCond .lt 10, 3) := by decide +kernel
theorem d_B_check_55 : decode k_B_check 55 = .ok (.iload 5, 2) := by decide +kernel
theorem d_B_check_57 : decode k_B_check 57 = .ok (.ldc 166, 2) := by decide +kernel
theorem d_B_check_59 : decode k_B_check 59 = .ok (.if_icmp .le 13, 3) := by decide +kernel
theorem d_B_check_62 : decode k_B_check 62 = .ok (.new 73, 3) := by decide +kernel
theorem d_B_check_65 : decode k_B_check 65 = .ok (.dup, 1) := by decide +kernel
theorem d_B_check_66 : decode k_B_check 66 = .ok (.ldc 167, 2) := by decide +kernel
theorem d_B_check_68 : decode k_B_check 68 = .ok (.invokespecial 77, 3) := by decide +kernel
theorem d_B_check_71 : decode k_B_check 71 = .ok (.athrow, 1) := by decide +kernel
theorem d_B_check_72 : decode k_B_check 72 = .ok (.iload_n 3, 1) := by decide +kernel
theorem d_B_check_73 : decode k_B_check 73 = .ok (.iconst 4, 1) := by decide +kernel
theorem d_B_check_74 : decode k_B_check 74 = .ok (.if_icmp .ne 23, 3) := by decide +kernel
theorem d_B_check_77 : decode k_B_check 77 = .ok (.iload 4, 2) := by decide +kernel
theorem d_B_check_79 : decode k_B_check 79 = .ok (.ifCond .ne 8, 3) := by decide +kernel
theorem d_B_check_82 : decode k_B_check 82 = .ok (.iload 5, 2) := by decide +kernel
theorem d_B_check_84 : decode k_B_check 84 = .ok (.ifCond .eq 13, 3) := by decide +kernel
theorem d_B_check_87 : decode k_B_check 87 = .ok (.new 73, 3) := by decide +kernel
theorem d_B_check_90 : decode k_B_check 90 = .ok (.dup, 1) := by decide +kernel
theorem d_B_check_91 : decode k_B_check 91 = .ok (.ldc 169, 2) := by decide +kernel
theorem d_B_check_93 : decode k_B_check 93 = .ok (.invokespecial 77, 3) := by decide +kernel
theorem d_B_check_96 : decode k_B_check 96 = .ok (.athrow, 1) := by decide +kernel
theorem d_B_check_97 : decode k_B_check 97 = .ok (.aload_n 0, 1) := by decide +kernel
theorem d_B_check_98 : decode k_B_check 98 = .ok (.getfield 48, 3) := by decide +kernel
theorem d_B_check_101 : decode k_B_check 101 = .ok (.iload_n 1, 1) := by decide +kernel
theorem d_B_check_102 : decode k_B_check 102 = .ok (.aaload, 1) := by decide +kernel
theorem d_B_check_103 : decode k_B_check 103 = .ok (.astore 6, 2) := by decide +kernel
theorem d_B_check_105 : decode k_B_check 105 = .ok (.aload 6, 2) := by decide +kernel
theorem d_B_check_107 : decode k_B_check 107 = .ok (.iload_n 2, 1) := by decide +kernel
theorem d_B_check_108 : decode k_B_check 108 = .ok (.iload_n 3, 1) := by decide +kernel
theorem d_B_check_109 : decode k_B_check 109 = .ok (.iload 4, 2) := by decide +kernel
theorem d_B_check_111 : decode k_B_check 111 = .ok (.iload 5, 2) := by decide +kernel
theorem d_B_check_113 : decode k_B_check 113 = .ok (.invokevirtual 171, 3) := by decide +kernel
theorem d_B_check_116 : decode k_B_check 116 = .ok (.istore 7, 2) := by decide +kernel
theorem d_B_check_118 : decode k_B_check 118 = .ok (.iload 7, 2) := by decide +kernel
theorem d_B_check_120 : decode k_B_check 120 = .ok (.ifCond .ne 14, 3) := by decide +kernel
theorem d_B_check_123 : decode k_B_check 123 = .ok (.aload 6, 2) := by decide +kernel
theorem d_B_check_125 : decode k_B_check 125 = .ok (.iload_n 2, 1) := by decide +kernel
theorem d_B_check_126 : decode k_B_check 126 = .ok (.iload_n 3, 1) := by decide +kernel
theorem d_B_check_127 : decode k_B_check 127 = .ok (.iload 4, 2) := by decide +kernel
theorem d_B_check_129 : decode k_B_check 129 = .ok (.iload 5, 2) := by decide +kernel
theorem d_B_check_131 : decode k_B_check 131 = .ok (.invokevirtual 175, 3) := by decide +kernel
theorem d_B_check_134 : decode k_B_check 134 = .ok (.iload 7, 2) := by decide +kernel
theorem d_B_check_136 : decode k_B_check 136 = .ok (.ireturn, 1) := by decide +kernel
theorem d_B_count_0 : decode k_B_count 0 = .ok (.iload_n 1, 1) := by decide +kernel
theorem d_B_count_1 : decode k_B_count 1 = .ok (.iconst 4, 1) := by decide +kernel
theorem d_B_count_2 : decode k_B_count 2 = .ok (.if_icmp .lt 21, 3) := by decide +kernel
theorem d_B_count_5 : decode k_B_count 5 = .ok (.iload_n 1, 1) := by decide +kernel
theorem d_B_count_6 : decode k_B_count 6 = .ok (.bipush 9, 2) := by decide +kernel
theorem d_B_count_8 : decode k_B_count 8 = .ok (.if_icmp .ge 15, 3) := by decide +kernel
theorem d_B_count_11 : decode k_B_count 11 = .ok (.aload_n 0, 1) := by decide +kernel
theorem d_B_count_12 : decode k_B_count 12 = .ok (.getfield 59, 3) := by decide +kernel
theorem d_B_count_15 : decode k_B_count 15 = .ok (.getfield 179, 3) := by decide +kernel
theorem d_B_count_18 : decode k_B_count 18 = .ok (.iload_n 1, 1) := by decide +kernel
theorem d_B_count_19 : decode k_B_count 19 = .ok (.iconst 4, 1) := by decide +kernel
theorem d_B_count_20 : decode k_B_count 20 = .ok (.isub, 1) := by decide +kernel
theorem d_B_count_21 : decode k_B_count 21 = .ok (.iaload, 1) := by decide +kernel
theorem d_B_count_22 : decode k_B_count 22 = .ok (.ireturn, 1) := by decide +kernel
theorem d_B_count_23 : decode k_B_count 23 = .ok (.iload_n 1, 1) := by decide +kernel
theorem d_B_count_24 : decode k_B_count 24 = .ok (.tableswitch 126 0 13 #[72, 77, 82, 87, 126, 126, 126, 126, 126, 95, 100, 110, 115, 121], 72) := by decide +kernel
theorem d_B_count_96 : decode k_B_count 96 = .ok (.aload_n 0, 1) := by decide +kernel
theorem d_B_count_97 : decode k_B_count 97 = .ok (.getfield 122, 3) := by decide +kernel
theorem d_B_count_100 : decode k_B_count 100 = .ok (.ireturn, 1) := by decide +kernel
theorem d_B_count_101 : decode k_B_count 101 = .ok (.aload_n 0, 1) := by decide +kernel
theorem d_B_count_102 : decode k_B_count 102 = .ok (.getfield 81, 3) := by decide +kernel
theorem d_B_count_105 : decode k_B_count 105 = .ok (.ireturn, 1) := by decide +kernel
theorem d_B_count_106 : decode k_B_count 106 = .ok (.aload_n 0, 1) := by decide +kernel
theorem d_B_count_107 : decode k_B_count 107 = .ok (.getfield 78, 3) := by decide +kernel
theorem d_B_count_110 : decode k_B_count 110 = .ok (.ireturn, 1) := by decide +kernel
theorem d_B_count_111 : decode k_B_count 111 = .ok (.aload_n 0, 1) := by decide +kernel
theorem d_B_count_112 : decode k_B_count 112 = .ok (.getfield 59, 3) := by decide +kernel
theorem d_B_count_115 : decode k_B_count 115 = .ok (.getfield 182, 3) := by decide +kernel
theorem d_B_count_118 : decode k_B_count 118 = .ok (.ireturn, 1) := by decide +kernel
theorem d_B_count_119 : decode k_B_count 119 = .ok (.aload_n 0, 1) := by decide +kernel
theorem d_B_count_120 : decode k_B_count 120 = .ok (.invokevirtual 185, 3) := by decide +kernel
theorem d_B_count_123 : decode k_B_count 123 = .ok (.ireturn, 1) := by decide +kernel
theorem d_B_count_124 : decode k_B_count 124 = .ok (.aload_n 0, 1) := by decide +kernel
theorem d_B_count_125 : decode k_B_count 125 = .ok (.getfield 81, 3) := by decide +kernel
theorem d_B_count_128 : decode k_B_count 128 = .ok (.aload_n 0, 1) := by decide +kernel
theorem d_B_count_129 : decode k_B_count 129 = .ok (.getfield 78, 3) := by decide +kernel
theorem d_B_count_132 : decode k_B_count 132 = .ok (.isub, 1) := by decide +kernel
theorem d_B_count_133 : decode k_B_count 133 = .ok (.ireturn, 1) := by decide +kernel
theorem d_B_count_134 : decode k_B_count 134 = .ok (.aload_n 0, 1) := by decide +kernel
theorem d_B_count_135 : decode k_B_count 135 = .ok (.getfield 189, 3) := by decide +kernel
theorem d_B_count_138 : decode k_B_count 138 = .ok (.ireturn, 1) := by decide +kernel
theorem d_B_count_139 : decode k_B_count 139 = .ok (.aload_n 0, 1) := by decide +kernel
theorem d_B_count_140 : decode k_B_count 140 = .ok (.getfield 42, 3) := by decide +kernel
theorem d_B_count_143 : decode k_B_count 143 = .ok (.arraylength, 1) := by decide +kernel
theorem d_B_count_144 : decode k_B_count 144 = .ok (.ireturn, 1) := by decide +kernel
theorem d_B_count_145 : decode k_B_count 145 = .ok (.aload_n 0, 1) := by decide +kernel
theorem d_B_count_146 : decode k_B_count 146 = .ok (.getfield 22, 3) := by decide +kernel
theorem d_B_count_149 : decode k_B_count 149 = .ok (.ireturn, 1) := by decide +kernel
theorem d_B_count_150 : decode k_B_count 150 = .ok (.iconst (-1), 1) := by decide +kernel
theorem d_B_count_151 : decode k_B_count 151 = .ok (.ireturn, 1) := by decide +kernel
theorem d_B_isAddress_0 : decode k_B_isAddress 0 = .ok (.iload_n 0, 1) := by decide +kernel
theorem d_B_isAddress_1 : decode k_B_isAddress 1 = .ok (.ifCond .lt 13, 3) := by decide +kernel
theorem d_B_isAddress_4 : decode k_B_isAddress 4 = .ok (.iload_n 0, 1) := by decide +kernel
theorem d_B_isAddress_5 : decode k_B_isAddress 5 = .ok (.ldc 192, 2) := by decide +kernel
theorem d_B_isAddress_7 : decode k_B_isAddress 7 = .ok (.if_icmp .gt 7, 3) := by decide +kernel
theorem d_B_isAddress_10 : decode k_B_isAddress 10 = .ok (.iconst 1, 1) := by decide +kernel
theorem d_B_isAddress_11 : decode k_B_isAddress 11 = .ok (.goto 4, 3) := by decide +kernel
theorem d_B_isAddress_14 : decode k_B_isAddress 14 = .ok (.iconst 0, 1) := by decide +kernel
theorem d_B_isAddress_15 : decode k_B_isAddress 15 = .ok (.ireturn, 1) := by decide +kernel
theorem d_B_channelOf_0 : decode k_B_channelOf 0 = .ok (.iload_n 1, 1) := by decide +kernel
theorem d_B_channelOf_1 : decode k_B_channelOf 1 = .ok (.iconst 4, 1) := by decide +kernel
theorem d_B_channelOf_2 : decode k_B_channelOf 2 = .ok (.ishr, 1) := by decide +kernel
theorem d_B_channelOf_3 : decode k_B_channelOf 3 = .ok (.aload_n 0, 1) := by decide +kernel
theorem d_B_channelOf_4 : decode k_B_channelOf 4 = .ok (.getfield 42, 3) := by decide +kernel
theorem d_B_channelOf_7 : decode k_B_channelOf 7 = .ok (.arraylength, 1) := by decide +kernel
theorem d_B_channelOf_8 : decode k_B_channelOf 8 = .ok (.iconst 1, 1) := by decide +kernel
theorem d_B_channelOf_9 : decode k_B_channelOf 9 = .ok (.isub, 1) := by decide +kernel
theorem d_B_channelOf_10 : decode k_B_channelOf 10 = .ok (.iand, 1) := by decide +kernel
theorem d_B_channelOf_11 : decode k_B_channelOf 11 = .ok (.ireturn, 1) := by decide +kernel
theorem d_B_bankOf_0 : decode k_B_bankOf 0 = .ok (.iload_n 1, 1) := by decide +kernel
theorem d_B_bankOf_1 : decode k_B_bankOf 1 = .ok (.iconst 4, 1) := by decide +kernel
theorem d_B_bankOf_2 : decode k_B_bankOf 2 = .ok (.aload_n 0, 1) := by decide +kernel
theorem d_B_bankOf_3 : decode k_B_bankOf 3 = .ok (.getfield 13, 3) := by decide +kernel
theorem d_B_bankOf_6 : decode k_B_bankOf 6 = .ok (.iadd, 1) := by decide +kernel
theorem d_B_bankOf_7 : decode k_B_bankOf 7 = .ok (.ishr, 1) := by decide +kernel
theorem d_B_bankOf_8 : decode k_B_bankOf 8 = .ok (.aload_n 0, 1) := by decide +kernel
theorem d_B_bankOf_9 : decode k_B_bankOf 9 = .ok (.getfield 22, 3) := by decide +kernel
theorem d_B_bankOf_12 : decode k_B_bankOf 12 = .ok (.iconst 1, 1) := by decide +kernel
theorem d_B_bankOf_13 : decode k_B_bankOf 13 = .ok (.isub, 1) := by decide +kernel
theorem d_B_bankOf_14 : decode k_B_bankOf 14 = .ok (.iand, 1) := by decide +kernel
theorem d_B_bankOf_15 : decode k_B_bankOf 15 = .ok (.ireturn, 1) := by decide +kernel
theorem d_B_rowOf_0 : decode k_B_rowOf 0 = .ok (.iload_n 1, 1) := by decide +kernel
theorem d_B_rowOf_1 : decode k_B_rowOf 1 = .ok (.iconst 4, 1) := by decide +kernel
theorem d_B_rowOf_2 : decode k_B_rowOf 2 = .ok (.aload_n 0, 1) := by decide +kernel
theorem d_B_rowOf_3 : decode k_B_rowOf 3 = .ok (.getfield 13, 3) := by decide +kernel
theorem d_B_rowOf_6 : decode k_B_rowOf 6 = .ok (.iadd, 1) := by decide +kernel
theorem d_B_rowOf_7 : decode k_B_rowOf 7 = .ok (.aload_n 0, 1) := by decide +kernel
theorem d_B_rowOf_8 : decode k_B_rowOf 8 = .ok (.getfield 19, 3) := by decide +kernel
theorem d_B_rowOf_11 : decode k_B_rowOf 11 = .ok (.iadd, 1) := by decide +kernel
theorem d_B_rowOf_12 : decode k_B_rowOf 12 = .ok (.ishr, 1) := by decide +kernel
theorem d_B_rowOf_13 : decode k_B_rowOf 13 = .ok (.ireturn, 1) := by decide +kernel
theorem d_B_anyRowOpen_0 : decode k_B_anyRowOpen 0 = .ok (.iconst 0, 1) := by decide +kernel
theorem d_B_anyRowOpen_1 : decode k_B_anyRowOpen 1 = .ok (.istore_n 1, 1) := by decide +kernel
theorem d_B_anyRowOpen_2 : decode k_B_anyRowOpen 2 = .ok (.iload_n 1, 1) := by decide +kernel
theorem d_B_anyRowOpen_3 : decode k_B_anyRowOpen 3 = .ok (.aload_n 0, 1) := by decide +kernel
theorem d_B_anyRowOpen_4 : decode k_B_anyRowOpen 4 = .ok (.getfield 42, 3) := by decide +kernel
theorem d_B_anyRowOpen_7 : decode k_B_anyRowOpen 7 = .ok (.arraylength, 1) := by decide +kernel
theorem d_B_anyRowOpen_8 : decode k_B_anyRowOpen 8 = .ok (.if_icmp .ge 26, 3) := by decide +kernel
theorem d_B_anyRowOpen_11 : decode k_B_anyRowOpen 11 = .ok (.aload_n 0, 1) := by decide +kernel
theorem d_B_anyRowOpen_12 : decode k_B_anyRowOpen 12 = .ok (.getfield 42, 3) := by decide +kernel
theorem d_B_anyRowOpen_15 : decode k_B_anyRowOpen 15 = .ok (.iload_n 1, 1) := by decide +kernel
theorem d_B_anyRowOpen_16 : decode k_B_anyRowOpen 16 = .ok (.aaload, 1) := by decide +kernel
theorem d_B_anyRowOpen_17 : decode k_B_anyRowOpen 17 = .ok (.getfield 152, 3) := by decide +kernel
theorem d_B_anyRowOpen_20 : decode k_B_anyRowOpen 20 = .ok (.invokevirtual 193, 3) := by decide +kernel
theorem d_B_anyRowOpen_23 : decode k_B_anyRowOpen 23 = .ok (.ifCond .eq 5, 3) := by decide +kernel
theorem d_B_anyRowOpen_26 : decode k_B_anyRowOpen 26 = .ok (.iconst 1, 1) := by decide +kernel
theorem d_B_anyRowOpen_27 : decode k_B_anyRowOpen 27 = .ok (.ireturn, 1) := by decide +kernel
theorem d_B_anyRowOpen_28 : decode k_B_anyRowOpen 28 = .ok (.iinc 1 1, 3) := by decide +kernel
theorem d_B_anyRowOpen_31 : decode k_B_anyRowOpen 31 = .ok (.goto (-29), 3) := by decide +kernel
theorem d_B_anyRowOpen_34 : decode k_B_anyRowOpen 34 = .ok (.iconst 0, 1) := by decide +kernel
theorem d_B_anyRowOpen_35 : decode k_B_anyRowOpen 35 = .ok (.ireturn, 1) := by decide +kernel
theorem d_B_dueRefreshes_0 : decode k_B_dueRefreshes 0 = .ok (.iconst 0, 1) := by decide +kernel
theorem d_B_dueRefreshes_1 : decode k_B_dueRefreshes 1 = .ok (.istore_n 1, 1) := by decide +kernel
theorem d_B_dueRefreshes_2 : decode k_B_dueRefreshes 2 = .ok (.iconst 0, 1) := by decide +kernel
theorem d_B_dueRefreshes_3 : decode k_B_dueRefreshes 3 = .ok (.istore_n 2, 1) := by decide +kernel
theorem d_B_dueRefreshes_4 : decode k_B_dueRefreshes 4 = .ok (.iload_n 2, 1) := by decide +kernel
theorem d_B_dueRefreshes_5 : decode k_B_dueRefreshes 5 = .ok (.aload_n 0, 1) := by decide +kernel
theorem d_B_dueRefreshes_6 : decode k_B_dueRefreshes 6 = .ok (.getfield 42, 3) := by decide +kernel
theorem d_B_dueRefreshes_9 : decode k_B_dueRefreshes 9 = .ok (.arraylength, 1) := by decide +kernel
theorem d_B_dueRefreshes_10 : decode k_B_dueRefreshes 10 = .ok (.if_icmp .ge 24, 3) := by decide +kernel
theorem d_B_dueRefreshes_13 : decode k_B_dueRefreshes 13 = .ok (.aload_n 0, 1) := by decide +kernel
theorem d_B_dueRefreshes_14 : decode k_B_dueRefreshes 14 = .ok (.getfield 42, 3) := by decide +kernel
theorem d_B_dueRefreshes_17 : decode k_B_dueRefreshes 17 = .ok (.iload_n 2, 1) := by decide +kernel
theorem d_B_dueRefreshes_18 : decode k_B_dueRefreshes 18 = .ok (.aaload, 1) := by decide +kernel
theorem d_B_dueRefreshes_19 : decode k_B_dueRefreshes 19 = .ok (.getfield 196, 3) := by decide +kernel
theorem d_B_dueRefreshes_22 : decode k_B_dueRefreshes 22 = .ok (.ifCond .eq 6, 3) := by decide +kernel
theorem d_B_dueRefreshes_25 : decode k_B_dueRefreshes 25 = .ok (.iinc 1 1, 3) := by decide +kernel
theorem d_B_dueRefreshes_28 : decode k_B_dueRefreshes 28 = .ok (.iinc 2 1, 3) := by decide +kernel
theorem d_B_dueRefreshes_31 : decode k_B_dueRefreshes 31 = .ok (.goto (-27), 3) := by decide +kernel
theorem d_B_dueRefreshes_34 : decode k_B_dueRefreshes 34 = .ok (.iload_n 1, 1) := by decide +kernel
theorem d_B_dueRefreshes_35 : decode k_B_dueRefreshes 35 = .ok (.ireturn, 1) := by decide +kernel
theorem d_B_step_0 : decode k_B_step 0 = .ok (.aload_n 0, 1) := by decide +kernel
theorem d_B_step_1 : decode k_B_step 1 = .ok (.dup, 1) := by decide +kernel
theorem d_B_step_2 : decode k_B_step 2 = .ok (.getfield 122, 3) := by decide +kernel
theorem d_B_step_5 : decode k_B_step 5 = .ok (.iconst 1, 1) := by decide +kernel
theorem d_B_step_6 : decode k_B_step 6 = .ok (.iadd, 1) := by decide +kernel
theorem d_B_step_7 : decode k_B_step 7 = .ok (.putfield 122, 3) := by decide +kernel
theorem d_B_step_10 : decode k_B_step 10 = .ok (.aload_n 0, 1) := by decide +kernel
theorem d_B_step_11 : decode k_B_step 11 = .ok (.getfield 95, 3) := by decide +kernel
theorem d_B_step_14 : decode k_B_step 14 = .ok (.ifCond .le 19, 3) := by decide +kernel
theorem d_B_step_17 : decode k_B_step 17 = .ok (.aload_n 0, 1) := by decide +kernel
theorem d_B_step_18 : decode k_B_step 18 = .ok (.getfield 122, 3) := by decide +kernel
theorem d_B_step_21 : decode k_B_step 21 = .ok (.aload_n 0, 1) := by decide +kernel
theorem d_B_step_22 : decode k_B_step 22 = .ok (.getfield 95, 3) := by decide +kernel
theorem d_B_step_25 : decode k_B_step 25 = .ok (.irem, 1) := by decide +kernel
theorem d_B_step_26 : decode k_B_step 26 = .ok (.ifCond .ne 7, 3) := by decide +kernel
theorem d_B_step_29 : decode k_B_step 29 = .ok (.iconst 1, 1) := by decide +kernel
theorem d_B_step_30 : decode k_B_step 30 = .ok (.goto 4, 3) := by decide +kernel
theorem d_B_step_33 : decode k_B_step 33 = .ok (.iconst 0, 1) := by decide +kernel
theorem d_B_step_34 : decode k_B_step 34 = .ok (.istore_n 1, 1) := by decide +kernel
theorem d_B_step_35 : decode k_B_step 35 = .ok (.iconst 0, 1) := by decide +kernel
theorem d_B_step_36 : decode k_B_step 36 = .ok (.istore_n 2, 1) := by decide +kernel
theorem d_B_step_37 : decode k_B_step 37 = .ok (.iload_n 2, 1) := by decide +kernel
theorem d_B_step_38 : decode k_B_step 38 = .ok (.aload_n 0, 1) := by decide +kernel
theorem d_B_step_39 : decode k_B_step 39 = .ok (.getfield 42, 3) := by decide +kernel
theorem d_B_step_42 : decode k_B_step 42 = .ok (.arraylength, 1) := by decide +kernel
theorem d_B_step_43 : decode k_B_step 43 = .ok (.if_icmp .ge 67, 3) := by decide +kernel
theorem d_B_step_46 : decode k_B_step 46 = .ok (.aload_n 0, 1) := by decide +kernel
theorem d_B_step_47 : decode k_B_step 47 = .ok (.getfield 42, 3) := by decide +kernel
theorem d_B_step_50 : decode k_B_step 50 = .ok (.iload_n 2, 1) := by decide +kernel
theorem d_B_step_51 : decode k_B_step 51 = .ok (.aaload, 1) := by decide +kernel
theorem d_B_step_52 : decode k_B_step 52 = .ok (.astore_n 3, 1) := by decide +kernel
theorem d_B_step_53 : decode k_B_step 53 = .ok (.iload_n 1, 1) := by decide +kernel
theorem d_B_step_54 : decode k_B_step 54 = .ok (.ifCond .eq 8, 3) := by decide +kernel
theorem d_B_step_57 : decode k_B_step 57 = .ok (.aload_n 3, 1) := by decide +kernel
theorem d_B_step_58 : decode k_B_step 58 = .ok (.iconst 1, 1) := by decide +kernel
theorem d_B_step_59 : decode k_B_step 59 = .ok (.putfield 196, 3) := by decide +kernel
theorem d_B_step_62 : decode k_B_step 62 = .ok (.aload_n 3, 1) := by decide +kernel
theorem d_B_step_63 : decode k_B_step 63 = .ok (.getfield 196, 3) := by decide +kernel
theorem d_B_step_66 : decode k_B_step 66 = .ok (.ifCond .eq 11, 3) := by decide +kernel
theorem d_B_step_69 : decode k_B_step 69 = .ok (.aload_n 0, 1) := by decide +kernel
theorem d_B_step_70 : decode k_B_step 70 = .ok (.iload_n 2, 1) := by decide +kernel
theorem d_B_step_71 : decode k_B_step 71 = .ok (.invokevirtual 200, 3) := by decide +kernel
theorem d_B_step_74 : decode k_B_step 74 = .ok (.goto 30, 3) := by decide +kernel
theorem d_B_step_77 : decode k_B_step 77 = .ok (.aload_n 3, 1) := by decide +kernel
theorem d_B_step_78 : decode k_B_step 78 = .ok (.aload_n 0, 1) := by decide +kernel
theorem d_B_step_79 : decode k_B_step 79 = .ok (.getfield 25, 3) := by decide +kernel
theorem d_B_step_82 : decode k_B_step 82 = .ok (.aload_n 0, 1) := by decide +kernel
theorem d_B_step_83 : decode k_B_step 83 = .ok (.getfield 122, 3) := by decide +kernel
theorem d_B_step_86 : decode k_B_step 86 = .ok (.invokevirtual 204, 3) := by decide +kernel
theorem d_B_step_89 : decode k_B_step 89 = .ok (.istore 4, 2) := by decide +kernel
theorem d_B_step_91 : decode k_B_step 91 = .ok (.iload 4, 2) := by decide +kernel
theorem d_B_step_93 : decode k_B_step 93 = .ok (.iconst (-1), 1) := by decide +kernel
theorem d_B_step_94 : decode k_B_step 94 = .ok (.if_icmp .eq 10, 3) := by decide +kernel
theorem d_B_step_97 : decode k_B_step 97 = .ok (.aload_n 0, 1) := by decide +kernel
theorem d_B_step_98 : decode k_B_step 98 = .ok (.iload_n 2, 1) := by decide +kernel
theorem d_B_step_99 : decode k_B_step 99 = .ok (.iload 4, 2) := by decide +kernel
theorem d_B_step_101 : decode k_B_step 101 = .ok (.invokevirtual 207, 3) := by decide +kernel
theorem d_B_step_104 : decode k_B_step 104 = .ok (.iinc 2 1, 3) := by decide +kernel
theorem d_B_step_107 : decode k_B_step 107 = .ok (.goto (-70), 3) := by decide +kernel
theorem d_B_step_110 : decode k_B_step 110 = .ok (.return_, 1) := by decide +kernel
theorem d_B_refresh_0 : decode k_B_refresh 0 = .ok (.aload_n 0, 1) := by decide +kernel
theorem d_B_refresh_1 : decode k_B_refresh 1 = .ok (.getfield 42, 3) := by decide +kernel
theorem d_B_refresh_4 : decode k_B_refresh 4 = .ok (.iload_n 1, 1) := by decide +kernel
theorem d_B_refresh_5 : decode k_B_refresh 5 = .ok (.aaload, 1) := by decide +kernel
theorem d_B_refresh_6 : decode k_B_refresh 6 = .ok (.astore_n 2, 1) := by decide +kernel
theorem d_B_refresh_7 : decode k_B_refresh 7 = .ok (.aload_n 2, 1) := by decide +kernel
theorem d_B_refresh_8 : decode k_B_refresh 8 = .ok (.getfield 152, 3) := by decide +kernel
theorem d_B_refresh_11 : decode k_B_refresh 11 = .ok (.astore_n 3, 1) := by decide +kernel
theorem d_B_refresh_12 : decode k_B_refresh 12 = .ok (.aload_n 3, 1) := by decide +kernel
theorem d_B_refresh_13 : decode k_B_refresh 13 = .ok (.invokevirtual 193, 3) := by decide +kernel
theorem d_B_refresh_16 : decode k_B_refresh 16 = .ok (.ifCond .eq 37, 3) := by decide +kernel
theorem d_B_refresh_19 : decode k_B_refresh 19 = .ok (.aload_n 3, 1) := by decide +kernel
theorem d_B_refresh_20 : decode k_B_refresh 20 = .ok (.aload_n 0, 1) := by decide +kernel
theorem d_B_refresh_21 : decode k_B_refresh 21 = .ok (.getfield 122, 3) := by decide +kernel
theorem d_B_refresh_24 : decode k_B_refresh 24 = .ok (.invokevirtual 211, 3) := by decide +kernel
theorem d_B_refresh_27 : decode k_B_refresh 27 = .ok (.istore 4, 2) := by decide +kernel
theorem d_B_refresh_29 : decode k_B_refresh 29 = .ok (.iload 4, 2) := by decide +kernel
theorem d_B_refresh_31 : decode k_B_refresh 31 = .ok (.iconst (-1), 1) := by decide +kernel
theorem d_B_refresh_32 : decode k_B_refresh 32 = .ok (.if_icmp .eq 18, 3) := by decide +kernel
theorem d_B_refresh_35 : decode k_B_refresh 35 = .ok (.aload_n 0, 1) := by decide +kernel
theorem d_B_refresh_36 : decode k_B_refresh 36 = .ok (.iload_n 1, 1) := by decide +kernel
theorem d_B_refresh_37 : decode k_B_refresh 37 = .ok (.iconst 3, 1) := by decide +kernel
theorem d_B_refresh_38 : decode k_B_refresh 38 = .ok (.iload 4, 2) := by decide +kernel
theorem d_B_refresh_40 : decode k_B_refresh 40 = .ok (.aload_n 3, 1) := by decide +kernel
theorem d_B_refresh_41 : decode k_B_refresh 41 = .ok (.getfield 156, 3) := by decide +kernel
theorem d_B_refresh_44 : decode k_B_refresh 44 = .ok (.iload 4, 2) := by decide +kernel
theorem d_B_refresh_46 : decode k_B_refresh 46 = .ok (.iaload, 1) := by decide +kernel
theorem d_B_refresh_47 : decode k_B_refresh 47 = .ok (.invokevirtual 214, 3) := by decide +kernel
theorem d_B_refresh_50 : decode k_B_refresh 50 = .ok (.goto 30, 3) := by decide +kernel
theorem d_B_refresh_53 : decode k_B_refresh 53 = .ok (.aload_n 3, 1) := by decide +kernel
theorem d_B_refresh_54 : decode k_B_refresh 54 = .ok (.aload_n 0, 1) := by decide +kernel
theorem d_B_refresh_55 : decode k_B_refresh 55 = .ok (.getfield 122, 3) := by decide +kernel
theorem d_B_refresh_58 : decode k_B_refresh 58 = .ok (.iconst 4, 1) := by decide +kernel
theorem d_B_refresh_59 : decode k_B_refresh 59 = .ok (.iconst 0, 1) := by decide +kernel
theorem d_B_refresh_60 : decode k_B_refresh 60 = .ok (.invokevirtual 217, 3) := by decide +kernel
theorem d_B_refresh_63 : decode k_B_refresh 63 = .ok (.iconst (-1), 1) := by decide +kernel
theorem d_B_refresh_64 : decode k_B_refresh 64 = .ok (.if_icmp .ne 16, 3) := by decide +kernel
theorem d_B_refresh_67 : decode k_B_refresh 67 = .ok (.aload_n 0, 1) := by decide +kernel
theorem d_B_refresh_68 : decode k_B_refresh 68 = .ok (.iload_n 1, 1) := by decide +kernel
theorem d_B_refresh_69 : decode k_B_refresh 69 = .ok (.iconst 4, 1) := by decide +kernel
theorem d_B_refresh_70 : decode k_B_refresh 70 = .ok (.iconst 0, 1) := by decide +kernel
theorem d_B_refresh_71 : decode k_B_refresh 71 = .ok (.iconst 0, 1) := by decide +kernel
theorem d_B_refresh_72 : decode k_B_refresh 72 = .ok (.invokevirtual 214, 3) := by decide +kernel
theorem d_B_refresh_75 : decode k_B_refresh 75 = .ok (.aload_n 2, 1) := by decide +kernel
theorem d_B_refresh_76 : decode k_B_refresh 76 = .ok (.iconst 0, 1) := by decide +kernel
theorem d_B_refresh_77 : decode k_B_refresh 77 = .ok (.putfield 196, 3) := by decide +kernel
theorem d_B_refresh_80 : decode k_B_refresh 80 = .ok (.return_, 1) := by decide +kernel
theorem d_B_serve_0 : decode k_B_serve 0 = .ok (.aload_n 0, 1) := by decide +kernel
theorem d_B_serve_1 : decode k_B_serve 1 = .ok (.getfield 42, 3) := by decide +kernel
theorem d_B_serve_4 : decode k_B_serve 4 = .ok (.iload_n 1, 1) := by decide +kernel
theorem d_B_serve_5 : decode k_B_serve 5 = .ok (.aaload, 1) := by decide +kernel
theorem d_B_serve_6 : decode k_B_serve 6 = .ok (.astore_n 3, 1) := by decide +kernel
theorem d_B_serve_7 : decode k_B_serve 7 = .ok (.aload_n 3, 1) := by decide +kernel
theorem d_B_serve_8 : decode k_B_serve 8 = .ok (.getfield 108, 3) := by decide +kernel
theorem d_B_serve_11 : decode k_B_serve 11 = .ok (.astore 4, 2) := by decide +kernel
theorem d_B_serve_13 : decode k_B_serve 13 = .ok (.aload_n 3, 1) := by decide +kernel
theorem d_B_serve_14 : decode k_B_serve 14 = .ok (.iload_n 2, 1) := by decide +kernel
theorem d_B_serve_15 : decode k_B_serve 15 = .ok (.invokevirtual 221, 3) := by decide +kernel
theorem d_B_serve_18 : decode k_B_serve 18 = .ok (.istore 5, 2) := by decide +kernel
theorem d_B_serve_20 : decode k_B_serve 20 = .ok (.aload 4, 2) := by decide +kernel
theorem d_B_serve_22 : decode k_B_serve 22 = .ok (.getfield 224, 3) := by decide +kernel
theorem d_B_serve_25 : decode k_B_serve 25 = .ok (.iload_n 2, 1) := by decide +kernel
theorem d_B_serve_26 : decode k_B_serve 26 = .ok (.iaload, 1) := by decide +kernel
theorem d_B_serve_27 : decode k_B_serve 27 = .ok (.istore 6, 2) := by decide +kernel
theorem d_B_serve_29 : decode k_B_serve 29 = .ok (.aload_n 3, 1) := by decide +kernel
theorem d_B_serve_30 : decode k_B_serve 30 = .ok (.iload 6, 2) := by decide +kernel
theorem d_B_serve_32 : decode k_B_serve 32 = .ok (.putfield 227, 3) := by decide +kernel
theorem d_B_serve_35 : decode k_B_serve 35 = .ok (.aload_n 0, 1) := by decide +kernel
theorem d_B_serve_36 : decode k_B_serve 36 = .ok (.iload_n 1, 1) := by decide +kernel
theorem d_B_serve_37 : decode k_B_serve 37 = .ok (.iload 5, 2) := by decide +kernel
theorem d_B_serve_39 : decode k_B_serve 39 = .ok (.iload 6, 2) := by decide +kernel
theorem d_B_serve_41 : decode k_B_serve 41 = .ok (.iload 5, 2) := by decide +kernel
theorem d_B_serve_43 : decode k_B_serve 43 = .ok (.iconst 3, 1) := by decide +kernel
theorem d_B_serve_44 : decode k_B_serve 44 = .ok (.if_icmp .ne 16, 3) := by decide +kernel
theorem d_B_serve_47 : decode k_B_serve 47 = .ok (.aload_n 3, 1) := by decide +kernel
theorem d_B_serve_48 : decode k_B_serve 48 = .ok (.getfield 152, 3) := by decide +kernel
theorem d_B_serve_51 : decode k_B_serve 51 = .ok (.getfield 156, 3) := by decide +kernel
theorem d_B_serve_54 : decode k_B_serve 54 = .ok (.iload 6, 2) := by decide +kernel
theorem d_B_serve_56 : decode k_B_serve 56 = .ok (.iaload, 1) := by decide +kernel
theorem d_B_serve_57 : decode k_B_serve 57 = .ok (.goto 10, 3) := by decide +kernel
theorem d_B_serve_60 : decode k_B_serve 60 = .ok (.aload 4, 2) := by decide +kernel
theorem d_B_serve_62 : decode k_B_serve 62 = .ok (.getfield 230, 3) := by decide +kernel
theorem d_B_serve_65 : decode k_B_serve 65 = .ok (.iload_n 2, 1) := by decide +kernel
theorem d_B_serve_66 : decode k_B_serve 66 = .ok (.iaload, 1) := by decide +kernel
theorem d_B_serve_67 : decode k_B_serve 67 = .ok (.invokevirtual 214, 3) := by decide +kernel
theorem d_B_serve_70 : decode k_B_serve 70 = .ok (.iload 5, 2) := by decide +kernel
theorem d_B_serve_72 : decode k_B_serve 72 = .ok (.iconst 1, 1) := by decide +kernel
theorem d_B_serve_73 : decode k_B_serve 73 = .ok (.if_icmp .eq 9, 3) := by decide +kernel
theorem d_B_serve_76 : decode k_B_serve 76 = .ok (.iload 5, 2) := by decide +kernel
theorem d_B_serve_78 : decode k_B_serve 78 = .ok (.iconst 2, 1) := by decide +kernel
theorem d_B_serve_79 : decode k_B_serve 79 = .ok (.if_icmp .ne 56, 3) := by decide +kernel
theorem d_B_serve_82 : decode k_B_serve 82 = .ok (.aload_n 0, 1) := by decide +kernel
theorem d_B_serve_83 : decode k_B_serve 83 = .ok (.getfield 63, 3) := by decide +kernel
theorem d_B_serve_86 : decode k_B_serve 86 = .ok (.aload 4, 2) := by decide +kernel
theorem d_B_serve_88 : decode k_B_serve 88 = .ok (.getfield 233, 3) := by decide +kernel
theorem d_B_serve_91 : decode k_B_serve 91 = .ok (.iload_n 2, 1) := by decide +kernel
theorem d_B_serve_92 : decode k_B_serve 92 = .ok (.iaload, 1) := by decide +kernel
theorem d_B_serve_93 : decode k_B_serve 93 = .ok (.aload_n 0, 1) := by decide +kernel
theorem d_B_serve_94 : decode k_B_serve 94 = .ok (.getfield 122, 3) := by decide +kernel
theorem d_B_serve_97 : decode k_B_serve 97 = .ok (.iastore, 1) := by decide +kernel
theorem d_B_serve_98 : decode k_B_serve 98 = .ok (.aload_n 0, 1) := by decide +kernel
theorem d_B_serve_99 : decode k_B_serve 99 = .ok (.dup, 1) := by decide +kernel
theorem d_B_serve_100 : decode k_B_serve 100 = .ok (.getfield 189, 3) := by decide +kernel
theorem d_B_serve_103 : decode k_B_serve 103 = .ok (.aload_n 0, 1) := by decide +kernel
theorem d_B_serve_104 : decode k_B_serve 104 = .ok (.getfield 122, 3) := by decide +kernel
theorem d_B_serve_107 : decode k_B_serve 107 = .ok (.aload 4, 2) := by decide +kernel
theorem d_B_serve_109 : decode k_B_serve 109 = .ok (.getfield 236, 3) := by decide +kernel
theorem d_B_serve_112 : decode k_B_serve 112 = .ok (.iload_n 2, 1) := by decide +kernel
theorem d_B_serve_113 : decode k_B_serve 113 = .ok (.iaload, 1) := by decide +kernel
theorem d_B_serve_114 : decode k_B_serve 114 = .ok (.isub, 1) := by decide +kernel
theorem d_B_serve_115 : decode k_B_serve 115 = .ok (.iadd, 1) := by decide +kernel
theorem d_B_serve_116 : decode k_B_serve 116 = .ok (.putfield 189, 3) := by decide +kernel
theorem d_B_serve_119 : decode k_B_serve 119 = .ok (.aload_n 0, 1) := by decide +kernel
theorem d_B_serve_120 : decode k_B_serve 120 = .ok (.dup, 1) := by decide +kernel
theorem d_B_serve_121 : decode k_B_serve 121 = .ok (.getfield 78, 3) := by decide +kernel
theorem d_B_serve_124 : decode k_B_serve 124 = .ok (.iconst 1, 1) := by decide +kernel
theorem d_B_serve_125 : decode k_B_serve 125 = .ok (.iadd, 1) := by decide +kernel
theorem d_B_serve_126 : decode k_B_serve 126 = .ok (.putfield 78, 3) := by decide +kernel
theorem d_B_serve_129 : decode k_B_serve 129 = .ok (.aload 4, 2) := by decide +kernel
theorem d_B_serve_131 : decode k_B_serve 131 = .ok (.iload_n 2, 1) := by decide +kernel
theorem d_B_serve_132 : decode k_B_serve 132 = .ok (.invokevirtual 239, 3) := by decide +kernel
theorem d_B_serve_135 : decode k_B_serve 135 = .ok (.return_, 1) := by decide +kernel
theorem d_B_give_0 : decode k_B_give 0 = .ok (.aload_n 0, 1) := by decide +kernel
theorem d_B_give_1 : decode k_B_give 1 = .ok (.getfield 42, 3) := by decide +kernel
theorem d_B_give_4 : decode k_B_give 4 = .ok (.iload_n 1, 1) := by decide +kernel
theorem d_B_give_5 : decode k_B_give 5 = .ok (.aaload, 1) := by decide +kernel
theorem d_B_give_6 : decode k_B_give 6 = .ok (.getfield 152, 3) := by decide +kernel
theorem d_B_give_9 : decode k_B_give 9 = .ok (.aload_n 0, 1) := by decide +kernel
theorem d_B_give_10 : decode k_B_give 10 = .ok (.getfield 122, 3) := by decide +kernel
theorem d_B_give_13 : decode k_B_give 13 = .ok (.iload_n 2, 1) := by decide +kernel
theorem d_B_give_14 : decode k_B_give 14 = .ok (.iload_n 3, 1) := by decide +kernel
theorem d_B_give_15 : decode k_B_give 15 = .ok (.iload 4, 2) := by decide +kernel
theorem d_B_give_17 : decode k_B_give 17 = .ok (.invokevirtual 175, 3) := by decide +kernel
theorem d_B_give_20 : decode k_B_give 20 = .ok (.aload_n 0, 1) := by decide +kernel
theorem d_B_give_21 : decode k_B_give 21 = .ok (.getfield 59, 3) := by decide +kernel
theorem d_B_give_24 : decode k_B_give 24 = .ok (.iload_n 1, 1) := by decide +kernel
theorem d_B_give_25 : decode k_B_give 25 = .ok (.aload_n 0, 1) := by decide +kernel
theorem d_B_give_26 : decode k_B_give 26 = .ok (.getfield 122, 3) := by decide +kernel
theorem d_B_give_29 : decode k_B_give 29 = .ok (.iload_n 2, 1) := by decide +kernel
theorem d_B_give_30 : decode k_B_give 30 = .ok (.iload_n 3, 1) := by decide +kernel
theorem d_B_give_31 : decode k_B_give 31 = .ok (.iload 4, 2) := by decide +kernel
theorem d_B_give_33 : decode k_B_give 33 = .ok (.invokevirtual 242, 3) := by decide +kernel
theorem d_B_give_36 : decode k_B_give 36 = .ok (.return_, 1) := by decide +kernel
theorem d_C_init_0 : decode k_C_init 0 = .ok (.aload_n 0, 1) := by decide +kernel
theorem d_C_init_1 : decode k_C_init 1 = .ok (.invokespecial 3, 3) := by decide +kernel
theorem d_C_init_4 : decode k_C_init 4 = .ok (.aload_n 0, 1) := by decide +kernel
theorem d_C_init_5 : decode k_C_init 5 = .ok (.iconst (-1), 1) := by decide +kernel
theorem d_C_init_6 : decode k_C_init 6 = .ok (.putfield 9, 3) := by decide +kernel
theorem d_C_init_9 : decode k_C_init 9 = .ok (.aload_n 0, 1) := by decide +kernel
theorem d_C_init_10 : decode k_C_init 10 = .ok (.new 15, 3) := by decide +kernel
theorem d_C_init_13 : decode k_C_init 13 = .ok (.dup, 1) := by decide +kernel
theorem d_C_init_14 : decode k_C_init 14 = .ok (.iload_n 1, 1) := by decide +kernel
theorem d_C_init_15 : decode k_C_init 15 = .ok (.aload_n 2, 1) := by decide +kernel
theorem d_C_init_16 : decode k_C_init 16 = .ok (.invokespecial 17, 3) := by decide +kernel
theorem d_C_init_19 : decode k_C_init 19 = .ok (.putfield 20, 3) := by decide +kernel
theorem d_C_init_22 : decode k_C_init 22 = .ok (.aload_n 0, 1) := by decide +kernel
theorem d_C_init_23 : decode k_C_init 23 = .ok (.new 24, 3) := by decide +kernel
theorem d_C_init_26 : decode k_C_init 26 = .ok (.dup, 1) := by decide +kernel
theorem d_C_init_27 : decode k_C_init 27 = .ok (.invokespecial 26, 3) := by decide +kernel
theorem d_C_init_30 : decode k_C_init 30 = .ok (.putfield 27, 3) := by decide +kernel
theorem d_C_init_33 : decode k_C_init 33 = .ok (.aload_n 0, 1) := by decide +kernel
theorem d_C_init_34 : decode k_C_init 34 = .ok (.iload_n 1, 1) := by decide +kernel
theorem d_C_init_35 : decode k_C_init 35 = .ok (.putfield 31, 3) := by decide +kernel
theorem d_C_init_38 : decode k_C_init 38 = .ok (.return_, 1) := by decide +kernel
theorem d_C_chosen_0 : decode k_C_chosen 0 = .ok (.aload_n 0, 1) := by decide +kernel
theorem d_C_chosen_1 : decode k_C_chosen 1 = .ok (.getfield 27, 3) := by decide +kernel
theorem d_C_chosen_4 : decode k_C_chosen 4 = .ok (.getfield 34, 3) := by decide +kernel
theorem d_C_chosen_7 : decode k_C_chosen 7 = .ok (.ifCond .ne 5, 3) := by decide +kernel
theorem d_C_chosen_10 : decode k_C_chosen 10 = .ok (.iconst (-1), 1) := by decide +kernel
theorem d_C_chosen_11 : decode k_C_chosen 11 = .ok (.ireturn, 1) := by decide +kernel
theorem d_C_chosen_12 : decode k_C_chosen 12 = .ok (.iload_n 1, 1) := by decide +kernel
theorem d_C_chosen_13 : decode k_C_chosen 13 = .ok (.tableswitch 98 0 2 #[27, 42, 49], 27) := by decide +kernel
theorem d_C_chosen_40 : decode k_C_chosen 40 = .ok (.aload_n 0, 1) := by decide +kernel
theorem d_C_chosen_41 : decode k_C_chosen 41 = .ok (.iconst 0, 1) := by decide +kernel
theorem d_C_chosen_42 : decode k_C_chosen 42 = .ok (.iload_n 2, 1) := by decide +kernel
theorem d_C_chosen_43 : decode k_C_chosen 43 = .ok (.invokevirtual 37, 3) := by decide +kernel
theorem d_C_chosen_46 : decode k_C_chosen 46 = .ok (.ifCond .eq 7, 3) := by decide +kernel
theorem d_C_chosen_49 : decode k_C_chosen 49 = .ok (.iconst 0, 1) := by decide +kernel
theorem d_C_chosen_50 : decode k_C_chosen 50 = .ok (.goto 4, 3) := by decide +kernel
theorem d_C_chosen_53 : decode k_C_chosen 53 = .ok (.iconst (-1), 1) := by decide +kernel
theorem d_C_chosen_54 : decode k_C_chosen 54 = .ok (.ireturn, 1) := by decide +kernel
theorem d_C_chosen_55 : decode k_C_chosen 55 = .ok (.aload_n 0, 1) := by decide +kernel
theorem d_C_chosen_56 : decode k_C_chosen 56 = .ok (.iconst 0, 1) := by decide +kernel
theorem d_C_chosen_57 : decode k_C_chosen 57 = .ok (.iload_n 2, 1) := by decide +kernel
theorem d_C_chosen_58 : decode k_C_chosen 58 = .ok (.invokevirtual 41, 3) := by decide +kernel
theorem d_C_chosen_61 : decode k_C_chosen 61 = .ok (.ireturn, 1) := by decide +kernel
theorem d_C_chosen_62 : decode k_C_chosen 62 = .ok (.aload_n 0, 1) := by decide +kernel
theorem d_C_chosen_63 : decode k_C_chosen 63 = .ok (.getfield 27, 3) := by decide +kernel
theorem d_C_chosen_66 : decode k_C_chosen 66 = .ok (.getfield 45, 3) := by decide +kernel
theorem d_C_chosen_69 : decode k_C_chosen 69 = .ok (.aload_n 0, 1) := by decide +kernel
theorem d_C_chosen_70 : decode k_C_chosen 70 = .ok (.getfield 27, 3) := by decide +kernel
theorem d_C_chosen_73 : decode k_C_chosen 73 = .ok (.getfield 34, 3) := by decide +kernel
theorem d_C_chosen_76 : decode k_C_chosen 76 = .ok (.if_icmp .ge 18, 3) := by decide +kernel
theorem d_C_chosen_79 : decode k_C_chosen 79 = .ok (.aload_n 0, 1) := by decide +kernel
theorem d_C_chosen_80 : decode k_C_chosen 80 = .ok (.getfield 27, 3) := by decide +kernel
theorem d_C_chosen_83 : decode k_C_chosen 83 = .ok (.getfield 45, 3) := by decide +kernel
theorem d_C_chosen_86 : decode k_C_chosen 86 = .ok (.iconst 5, 1) := by decide +kernel
theorem d_C_chosen_87 : decode k_C_chosen 87 = .ok (.if_icmp .ge 7, 3) := by decide +kernel
theorem d_C_chosen_90 : decode k_C_chosen 90 = .ok (.iconst 1, 1) := by decide +kernel
theorem d_C_chosen_91 : decode k_C_chosen 91 = .ok (.goto 4, 3) := by decide +kernel
theorem d_C_chosen_94 : decode k_C_chosen 94 = .ok (.iconst 0, 1) := by decide +kernel
theorem d_C_chosen_95 : decode k_C_chosen 95 = .ok (.istore_n 3, 1) := by decide +kernel
theorem d_C_chosen_96 : decode k_C_chosen 96 = .ok (.aload_n 0, 1) := by decide +kernel
theorem d_C_chosen_97 : decode k_C_chosen 97 = .ok (.iload_n 3, 1) := by decide +kernel
theorem d_C_chosen_98 : decode k_C_chosen 98 = .ok (.ifCond .eq 7, 3) := by decide +kernel
theorem d_C_chosen_101 : decode k_C_chosen 101 = .ok (.iconst 1, 1) := by decide +kernel
theorem d_C_chosen_102 : decode k_C_chosen 102 = .ok (.goto 4, 3) := by decide +kernel
theorem d_C_chosen_105 : decode k_C_chosen 105 = .ok (.iconst 2, 1) := by decide +kernel
theorem d_C_chosen_106 : decode k_C_chosen 106 = .ok (.iload_n 2, 1) := by decide +kernel
theorem d_C_chosen_107 : decode k_C_chosen 107 = .ok (.invokevirtual 41, 3) := by decide +kernel
theorem d_C_chosen_110 : decode k_C_chosen 110 = .ok (.ireturn, 1) := by decide +kernel
theorem d_C_chosen_111 : decode k_C_chosen 111 = .ok (.aload_n 0, 1) := by decide +kernel
theorem d_C_chosen_112 : decode k_C_chosen 112 = .ok (.iload_n 2, 1) := by decide +kernel
theorem d_C_chosen_113 : decode k_C_chosen 113 = .ok (.invokevirtual 48, 3) := by decide +kernel
theorem d_C_chosen_116 : decode k_C_chosen 116 = .ok (.ireturn, 1) := by decide +kernel
theorem d_C_nextKind_0 : decode k_C_nextKind 0 = .ok (.aload_n 0, 1) := by decide +kernel
theorem d_C_nextKind_1 : decode k_C_nextKind 1 = .ok (.getfield 20, 3) := by decide +kernel
theorem d_C_nextKind_4 : decode k_C_nextKind 4 = .ok (.getfield 52, 3) := by decide +kernel
theorem d_C_nextKind_7 : decode k_C_nextKind 7 = .ok (.aload_n 0, 1) := by decide +kernel
theorem d_C_nextKind_8 : decode k_C_nextKind 8 = .ok (.getfield 27, 3) := by decide +kernel
theorem d_C_nextKind_11 : decode k_C_nextKind 11 = .ok (.getfield 56, 3) := by decide +kernel
theorem d_C_nextKind_14 : decode k_C_nextKind 14 = .ok (.iload_n 1, 1) := by decide +kernel
theorem d_C_nextKind_15 : decode k_C_nextKind 15 = .ok (.iaload, 1) := by decide +kernel
theorem d_C_nextKind_16 : decode k_C_nextKind 16 = .ok (.iaload, 1) := by decide +kernel
theorem d_C_nextKind_17 : decode k_C_nextKind 17 = .ok (.istore_n 2, 1) := by decide +kernel
theorem d_C_nextKind_18 : decode k_C_nextKind 18 = .ok (.iload_n 2, 1) := by decide +kernel
theorem d_C_nextKind_19 : decode k_C_nextKind 19 = .ok (.iconst (-1), 1) := by decide +kernel
theorem d_C_nextKind_20 : decode k_C_nextKind 20 = .ok (.if_icmp .ne 5, 3) := by decide +kernel
theorem d_C_nextKind_23 : decode k_C_nextKind 23 = .ok (.iconst 0, 1) := by decide +kernel
theorem d_C_nextKind_24 : decode k_C_nextKind 24 = .ok (.ireturn, 1) := by decide +kernel
theorem d_C_nextKind_25 : decode k_C_nextKind 25 = .ok (.iload_n 2, 1) := by decide +kernel
theorem d_C_nextKind_26 : decode k_C_nextKind 26 = .ok (.aload_n 0, 1) := by decide +kernel
theorem d_C_nextKind_27 : decode k_C_nextKind 27 = .ok (.getfield 27, 3) := by decide +kernel
theorem d_C_nextKind_30 : decode k_C_nextKind 30 = .ok (.getfield 59, 3) := by decide +kernel
theorem d_C_nextKind_33 : decode k_C_nextKind 33 = .ok (.iload_n 1, 1) := by decide +kernel
theorem d_C_nextKind_34 : decode k_C_nextKind 34 = .ok (.iaload, 1) := by decide +kernel
theorem d_C_nextKind_35 : decode k_C_nextKind 35 = .ok (.if_icmp .eq 5, 3) := by decide +kernel
theorem d_C_nextKind_38 : decode k_C_nextKind 38 = .ok (.iconst 3, 1) := by decide +kernel
theorem d_C_nextKind_39 : decode k_C_nextKind 39 = .ok (.ireturn, 1) := by decide +kernel
theorem d_C_nextKind_40 : decode k_C_nextKind 40 = .ok (.aload_n 0, 1) := by decide +kernel
theorem d_C_nextKind_41 : decode k_C_nextKind 41 = .ok (.getfield 27, 3) := by decide +kernel
theorem d_C_nextKind_44 : decode k_C_nextKind 44 = .ok (.getfield 62, 3) := by decide +kernel
theorem d_C_nextKind_47 : decode k_C_nextKind 47 = .ok (.iload_n 1, 1) := by decide +kernel
theorem d_C_nextKind_48 : decode k_C_nextKind 48 = .ok (.baload, 1) := by decide +kernel
theorem d_C_nextKind_49 : decode k_C_nextKind 49 = .ok (.ifCond .eq 7, 3) := by decide +kernel
theorem d_C_nextKind_52 : decode k_C_nextKind 52 = .ok (.iconst 2, 1) := by decide +kernel
theorem d_C_nextKind_53 : decode k_C_nextKind 53 = .ok (.goto 4, 3) := by decide +kernel
theorem d_C_nextKind_56 : decode k_C_nextKind 56 = .ok (.iconst 1, 1) := by decide +kernel
theorem d_C_nextKind_57 : decode k_C_nextKind 57 = .ok (.ireturn, 1) := by decide +kernel
theorem d_C_isReady_0 : decode k_C_isReady 0 = .ok (.aload_n 0, 1) := by decide +kernel
theorem d_C_isReady_1 : decode k_C_isReady 1 = .ok (.getfield 20, 3) := by decide +kernel
theorem d_C_isReady_4 : decode k_C_isReady 4 = .ok (.iload_n 2, 1) := by decide +kernel
theorem d_C_isReady_5 : decode k_C_isReady 5 = .ok (.aload_n 0, 1) := by decide +kernel
theorem d_C_isReady_6 : decode k_C_isReady 6 = .ok (.iload_n 1, 1) := by decide +kernel
theorem d_C_isReady_7 : decode k_C_isReady 7 = .ok (.invokevirtual 66, 3) := by decide +kernel
theorem d_C_isReady_10 : decode k_C_isReady 10 = .ok (.aload_n 0, 1) := by decide +kernel
theorem d_C_isReady_11 : decode k_C_isReady 11 = .ok (.getfield 27, 3) := by decide +kernel
theorem d_C_isReady_14 : decode k_C_isReady 14 = .ok (.getfield 56, 3) := by decide +kernel
theorem d_C_isReady_17 : decode k_C_isReady 17 = .ok (.iload_n 1, 1) := by decide +kernel
theorem d_C_isReady_18 : decode k_C_isReady 18 = .ok (.iaload, 1) := by decide +kernel
theorem d_C_isReady_19 : decode k_C_isReady 19 = .ok (.invokevirtual 69, 3) := by decide +kernel
theorem d_C_isReady_22 : decode k_C_isReady 22 = .ok (.iconst (-1), 1) := by decide +kernel
theorem d_C_isReady_23 : decode k_C_isReady 23 = .ok (.if_icmp .ne 7, 3) := by decide +kernel
theorem d_C_isReady_26 : decode k_C_isReady 26 = .ok (.iconst 1, 1) := by decide +kernel
theorem d_C_isReady_27 : decode k_C_isReady 27 = .ok (.goto 4, 3) := by decide +kernel
theorem d_C_isReady_30 : decode k_C_isReady 30 = .ok (.iconst 0, 1) := by decide +kernel
theorem d_C_isReady_31 : decode k_C_isReady 31 = .ok (.ireturn, 1) := by decide +kernel
theorem d_C_chosenByRows_0 : decode k_C_chosenByRows 0 = .ok (.iconst (-1), 1) := by decide +kernel
theorem d_C_chosenByRows_1 : decode k_C_chosenByRows 1 = .ok (.istore_n 3, 1) := by decide +kernel
theorem d_C_chosenByRows_2 : decode k_C_chosenByRows 2 = .ok (.iconst 0, 1) := by decide +kernel
theorem d_C_chosenByRows_3 : decode k_C_chosenByRows 3 = .ok (.istore 4, 2) := by decide +kernel
theorem d_C_chosenByRows_5 : decode k_C_chosenByRows 5 = .ok (.iload 4, 2) := by decide +kernel
theorem d_C_chosenByRows_7 : decode k_C_chosenByRows 7 = .ok (.aload_n 0, 1) := by decide +kernel
theorem d_C_chosenByRows_8 : decode k_C_chosenByRows 8 = .ok (.getfield 27, 3) := by decide +kernel
theorem d_C_chosenByRows_11 : decode k_C_chosenByRows 11 = .ok (.getfield 34, 3) := by decide +kernel
theorem d_C_chosenByRows_14 : decode k_C_chosenByRows 14 = .ok (.if_icmp .ge 87, 3) := by decide +kernel
theorem d_C_chosenByRows_17 : decode k_C_chosenByRows 17 = .ok (.aload_n 0, 1) := by decide +kernel
theorem d_C_chosenByRows_18 : decode k_C_chosenByRows 18 = .ok (.iload 4, 2) := by decide +kernel
theorem d_C_chosenByRows_20 : decode k_C_chosenByRows 20 = .ok (.iload_n 1, 1) := by decide +kernel
theorem d_C_chosenByRows_21 : decode k_C_chosenByRows 21 = .ok (.invokevirtual 73, 3) := by decide +kernel
theorem d_C_chosenByRows_24 : decode k_C_chosenByRows 24 = .ok (.ifCond .eq 71, 3) := by decide +kernel
theorem d_C_chosenByRows_27 : decode k_C_chosenByRows 27 = .ok (.aload_n 0, 1) := by decide +kernel
theorem d_C_chosenByRows_28 : decode k_C_chosenByRows 28 = .ok (.iload 4, 2) := by decide +kernel
theorem d_C_chosenByRows_30 : decode k_C_chosenByRows 30 = .ok (.iload_n 2, 1) := by decide +kernel
theorem d_C_chosenByRows_31 : decode k_C_chosenByRows 31 = .ok (.invokevirtual 37, 3) := by decide +kernel
theorem d_C_chosenByRows_34 : decode k_C_chosenByRows 34 = .ok (.ifCond .ne 6, 3) := by decide +kernel
theorem d_C_chosenByRows_37 : decode k_C_chosenByRows 37 = .ok (.goto 58, 3) := by decide +kernel
theorem d_C_chosenByRows_40 : decode k_C_chosenByRows 40 = .ok (.aload_n 0, 1) := by decide +kernel
theorem d_C_chosenByRows_41 : decode k_C_chosenByRows 41 = .ok (.iload 4, 2) := by decide +kernel
theorem d_C_chosenByRows_43 : decode k_C_chosenByRows 43 = .ok (.invokevirtual 66, 3) := by decide +kernel
theorem d_C_chosenByRows_46 : decode k_C_chosenByRows 46 = .ok (.istore 5, 2) := by decide +kernel
theorem d_C_chosenByRows_48 : decode k_C_chosenByRows 48 = .ok (.iload 5, 2) := by decide +kernel
theorem d_C_chosenByRows_50 : decode k_C_chosenByRows 50 = .ok (.iconst 1, 1) := by decide +kernel
theorem d_C_chosenByRows_51 : decode k_C_chosenByRows 51 = .ok (.if_icmp .eq 9, 3) := by decide +kernel
theorem d_C_chosenByRows_54 : decode k_C_chosenByRows 54 = .ok (.iload 5, 2) := by decide +kernel
theorem d_C_chosenByRows_56 : decode k_C_chosenByRows 56 = .ok (.iconst 2, 1) := by decide +kernel
theorem d_C_chosenByRows_57 : decode k_C_chosenByRows 57 = .ok (.if_icmp .ne 6, 3) := by decide +kernel
theorem d_C_chosenByRows_60 : decode k_C_chosenByRows 60 = .ok (.iload 4, 2) := by decide +kernel
theorem d_C_chosenByRows_62 : decode k_C_chosenByRows 62 = .ok (.ireturn, 1) := by decide +kernel
theorem d_C_chosenByRows_63 : decode k_C_chosenByRows 63 = .ok (.iload_n 3, 1) := by decide +kernel
theorem d_C_chosenByRows_64 : decode k_C_chosenByRows 64 = .ok (.iconst (-1), 1) := by decide +kernel
theorem d_C_chosenByRows_65 : decode k_C_chosenByRows 65 = .ok (.if_icmp .ne 30, 3) := by decide +kernel
theorem d_C_chosenByRows_68 : decode k_C_chosenByRows 68 = .ok (.iload 5, 2) := by decide +kernel
theorem d_C_chosenByRows_70 : decode k_C_chosenByRows 70 = .ok (.iconst 3, 1) := by decide +kernel
theorem d_C_chosenByRows_71 : decode k_C_chosenByRows 71 = .ok (.if_icmp .ne 21, 3) := by decide +kernel
theorem d_C_chosenByRows_74 : decode k_C_chosenByRows 74 = .ok (.aload_n 0, 1) := by decide +kernel
theorem d_C_chosenByRows_75 : decode k_C_chosenByRows 75 = .ok (.aload_n 0, 1) := by decide +kernel
theorem d_C_chosenByRows_76 : decode k_C_chosenByRows 76 = .ok (.getfield 27, 3) := by decide +kernel
theorem d_C_chosenByRows_79 : decode k_C_chosenByRows 79 = .ok (.getfield 56, 3) := by decide +kernel
theorem d_C_chosenByRows_82 : decode k_C_chosenByRows 82 = .ok (.iload 4, 2) := by decide +kernel
theorem d_C_chosenByRows_84 : decode k_C_chosenByRows 84 = .ok (.iaload, 1) := by decide +kernel
theorem d_C_chosenByRows_85 : decode k_C_chosenByRows 85 = .ok (.iload_n 1, 1) := by decide +kernel
theorem d_C_chosenByRows_86 : decode k_C_chosenByRows 86 = .ok (.invokevirtual 76, 3) := by decide +kernel
theorem d_C_chosenByRows_89 : decode k_C_chosenByRows 89 = .ok (.ifCond .ne 6, 3) := by decide +kernel
theorem d_C_chosenByRows_92 : decode k_C_chosenByRows 92 = .ok (.iload 4, 2) := by decide +kernel
theorem d_C_chosenByRows_94 : decode k_C_chosenByRows 94 = .ok (.istore_n 3, 1) := by decide +kernel
theorem d_C_chosenByRows_95 : decode k_C_chosenByRows 95 = .ok (.iinc 4 1, 3) := by decide +kernel
theorem d_C_chosenByRows_98 : decode k_C_chosenByRows 98 = .ok (.goto (-93), 3) := by decide +kernel
theorem d_C_chosenByRows_101 : decode k_C_chosenByRows 101 = .ok (.iload_n 3, 1) := by decide +kernel
theorem d_C_chosenByRows_102 : decode k_C_chosenByRows 102 = .ok (.ireturn, 1) := by decide +kernel
theorem d_C_isAmong_0 : decode k_C_isAmong 0 = .ok (.iload_n 2, 1) := by decide +kernel
theorem d_C_isAmong_1 : decode k_C_isAmong 1 = .ok (.ifCond .eq 25, 3) := by decide +kernel
theorem d_C_isAmong_4 : decode k_C_isAmong 4 = .ok (.aload_n 0, 1) := by decide +kernel
theorem d_C_isAmong_5 : decode k_C_isAmong 5 = .ok (.getfield 27, 3) := by decide +kernel
theorem d_C_isAmong_8 : decode k_C_isAmong 8 = .ok (.getfield 62, 3) := by decide +kernel
theorem d_C_isAmong_11 : decode k_C_isAmong 11 = .ok (.iload_n 1, 1) := by decide +kernel
theorem d_C_isAmong_12 : decode k_C_isAmong 12 = .ok (.baload, 1) := by decide +kernel
theorem d_C_isAmong_13 : decode k_C_isAmong 13 = .ok (.iload_n 2, 1) := by decide +kernel
theorem d_C_isAmong_14 : decode k_C_isAmong 14 = .ok (.iconst 2, 1) := by decide +kernel
theorem d_C_isAmong_15 : decode k_C_isAmong 15 = .ok (.if_icmp .ne 7, 3) := by decide +kernel
theorem d_C_isAmong_18 : decode k_C_isAmong 18 = .ok (.iconst 1, 1) := by decide +kernel
theorem d_C_isAmong_19 : decode k_C_isAmong 19 = .ok (.goto 4, 3) := by decide +kernel
theorem d_C_isAmong_22 : decode k_C_isAmong 22 = .ok (.iconst 0, 1) := by decide +kernel
theorem d_C_isAmong_23 : decode k_C_isAmong 23 = .ok (.if_icmp .ne 7, 3) := by decide +kernel
theorem d_C_isAmong_26 : decode k_C_isAmong 26 = .ok (.iconst 1, 1) := by decide +kernel
theorem d_C_isAmong_27 : decode k_C_isAmong 27 = .ok (.goto 4, 3) := by decide +kernel
theorem d_C_isAmong_30 : decode k_C_isAmong 30 = .ok (.iconst 0, 1) := by decide +kernel
theorem d_C_isAmong_31 : decode k_C_isAmong 31 = .ok (.ireturn, 1) := by decide +kernel
theorem d_C_openRowIsWanted_0 : decode k_C_openRowIsWanted 0 = .ok (.iconst 0, 1) := by decide +kernel
theorem d_C_openRowIsWanted_1 : decode k_C_openRowIsWanted 1 = .ok (.istore_n 3, 1) := by decide +kernel
theorem d_C_openRowIsWanted_2 : decode k_C_openRowIsWanted 2 = .ok (.iload_n 3, 1) := by decide +kernel
theorem d_C_openRowIsWanted_3 : decode k_C_openRowIsWanted 3 = .ok (.aload_n 0, 1) := by decide +kernel
theorem d_C_openRowIsWanted_4 : decode k_C_openRowIsWanted 4 = .ok (.getfield 27, 3) := by decide +kernel
theorem d_C_openRowIsWanted_7 : decode k_C_openRowIsWanted 7 = .ok (.getfield 34, 3) := by decide +kernel
theorem d_C_openRowIsWanted_10 : decode k_C_openRowIsWanted 10 = .ok (.if_icmp .ge 54, 3) := by decide +kernel
theorem d_C_openRowIsWanted_13 : decode k_C_openRowIsWanted 13 = .ok (.aload_n 0, 1) := by decide +kernel
theorem d_C_openRowIsWanted_14 : decode k_C_openRowIsWanted 14 = .ok (.iload_n 3, 1) := by decide +kernel
theorem d_C_openRowIsWanted_15 : decode k_C_openRowIsWanted 15 = .ok (.iload_n 2, 1) := by decide +kernel
theorem d_C_openRowIsWanted_16 : decode k_C_openRowIsWanted 16 = .ok (.invokevirtual 73, 3) := by decide +kernel
theorem d_C_openRowIsWanted_19 : decode k_C_openRowIsWanted 19 = .ok (.ifCond .eq 39, 3) := by decide +kernel
theorem d_C_openRowIsWanted_22 : decode k_C_openRowIsWanted 22 = .ok (.aload_n 0, 1) := by decide +kernel
theorem d_C_openRowIsWanted_23 : decode k_C_openRowIsWanted 23 = .ok (.getfield 27, 3) := by decide +kernel
theorem d_C_openRowIsWanted_26 : decode k_C_openRowIsWanted 26 = .ok (.getfield 56, 3) := by decide +kernel
theorem d_C_openRowIsWanted_29 : decode k_C_openRowIsWanted 29 = .ok (.iload_n 3, 1) := by decide +kernel
theorem d_C_openRowIsWanted_30 : decode k_C_openRowIsWanted 30 = .ok (.iaload, 1) := by decide +kernel
theorem d_C_openRowIsWanted_31 : decode k_C_openRowIsWanted 31 = .ok (.iload_n 1, 1) := by decide +kernel
theorem d_C_openRowIsWanted_32 : decode k_C_openRowIsWanted 32 = .ok (.if_icmp .ne 26, 3) := by decide +kernel
theorem d_C_openRowIsWanted_35 : decode k_C_openRowIsWanted 35 = .ok (.aload_n 0, 1) := by decide +kernel
theorem d_C_openRowIsWanted_36 : decode k_C_openRowIsWanted 36 = .ok (.getfield 27, 3) := by decide +kernel
theorem d_C_openRowIsWanted_39 : decode k_C_openRowIsWanted 39 = .ok (.getfield 59, 3) := by decide +kernel
theorem d_C_openRowIsWanted_42 : decode k_C_openRowIsWanted 42 = .ok (.iload_n 3, 1) := by decide +kernel
theorem d_C_openRowIsWanted_43 : decode k_C_openRowIsWanted 43 = .ok (.iaload, 1) := by decide +kernel
theorem d_C_openRowIsWanted_44 : decode k_C_openRowIsWanted 44 = .ok (.aload_n 0, 1) := by decide +kernel
theorem d_C_openRowIsWanted_45 : decode k_C_openRowIsWanted 45 = .ok (.getfield 20, 3) := by decide +kernel
theorem d_C_openRowIsWanted_48 : decode k_C_openRowIsWanted 48 = .ok (.getfield 52, 3) := by decide +kernel
theorem d_C_openRowIsWanted_51 : decode k_C_openRowIsWanted 51 = .ok (.iload_n 1, 1) := by decide +kernel
theorem d_C_openRowIsWanted_52 : decode k_C_openRowIsWanted 52 = .ok (.iaload, 1) := by decide +kernel
theorem d_C_openRowIsWanted_53 : decode k_C_openRowIsWanted 53 = .ok (.if_icmp .ne 5, 3) := by decide +kernel
theorem d_C_openRowIsWanted_56 : decode k_C_openRowIsWanted 56 = .ok (.iconst 1, 1) := by decide +kernel
theorem d_C_openRowIsWanted_57 : decode k_C_openRowIsWanted 57 = .ok (.ireturn, 1) := by decide +kernel
theorem d_C_openRowIsWanted_58 : decode k_C_openRowIsWanted 58 = .ok (.iinc 3 1, 3) := by decide +kernel
theorem d_C_openRowIsWanted_61 : decode k_C_openRowIsWanted 61 = .ok (.goto (-59), 3) := by decide +kernel
theorem d_C_openRowIsWanted_64 : decode k_C_openRowIsWanted 64 = .ok (.iconst 0, 1) := by decide +kernel
theorem d_C_openRowIsWanted_65 : decode k_C_openRowIsWanted 65 = .ok (.ireturn, 1) := by decide +kernel
theorem d_C_chosenByTurns_0 : decode k_C_chosenByTurns 0 = .ok (.iconst 1, 1) := by decide +kernel
theorem d_C_chosenByTurns_1 : decode k_C_chosenByTurns 1 = .ok (.istore_n 2, 1) := by decide +kernel
theorem d_C_chosenByTurns_2 : decode k_C_chosenByTurns 2 = .ok (.iload_n 2, 1) := by decide +kernel
theorem d_C_chosenByTurns_3 : decode k_C_chosenByTurns 3 = .ok (.aload_n 0, 1) := by decide +kernel
theorem d_C_chosenByTurns_4 : decode k_C_chosenByTurns 4 = .ok (.getfield 31, 3) := by decide +kernel
theorem d_C_chosenByTurns_7 : decode k_C_chosenByTurns 7 = .ok (.if_icmp .gt 46, 3) := by decide +kernel
theorem d_C_chosenByTurns_10 : decode k_C_chosenByTurns 10 = .ok (.aload_n 0, 1) := by decide +kernel
theorem d_C_chosenByTurns_11 : decode k_C_chosenByTurns 11 = .ok (.getfield 27, 3) := by decide +kernel
theorem d_C_chosenByTurns_14 : decode k_C_chosenByTurns 14 = .ok (.aload_n 0, 1) := by decide +kernel
theorem d_C_chosenByTurns_15 : decode k_C_chosenByTurns 15 = .ok (.getfield 9, 3) := by decide +kernel
theorem d_C_chosenByTurns_18 : decode k_C_chosenByTurns 18 = .ok (.iload_n 2, 1) := by decide +kernel
theorem d_C_chosenByTurns_19 : decode k_C_chosenByTurns 19 = .ok (.iadd, 1) := by decide +kernel
theorem d_C_chosenByTurns_20 : decode k_C_chosenByTurns 20 = .ok (.aload_n 0, 1) := by decide +kernel
theorem d_C_chosenByTurns_21 : decode k_C_chosenByTurns 21 = .ok (.getfield 31, 3) := by decide +kernel
theorem d_C_chosenByTurns_24 : decode k_C_chosenByTurns 24 = .ok (.iconst 1, 1) := by decide +kernel
theorem d_C_chosenByTurns_25 : decode k_C_chosenByTurns 25 = .ok (.isub, 1) := by decide +kernel
theorem d_C_chosenByTurns_26 : decode k_C_chosenByTurns 26 = .ok (.iand, 1) := by decide +kernel
theorem d_C_chosenByTurns_27 : decode k_C_chosenByTurns 27 = .ok (.invokevirtual 79, 3) := by decide +kernel
theorem d_C_chosenByTurns_30 : decode k_C_chosenByTurns 30 = .ok (.istore_n 3, 1) := by decide +kernel
theorem d_C_chosenByTurns_31 : decode k_C_chosenByTurns 31 = .ok (.iload_n 3, 1) := by decide +kernel
theorem d_C_chosenByTurns_32 : decode k_C_chosenByTurns 32 = .ok (.iconst (-1), 1) := by decide +kernel
theorem d_C_chosenByTurns_33 : decode k_C_chosenByTurns 33 = .ok (.if_icmp .eq 14, 3) := by decide +kernel
theorem d_C_chosenByTurns_36 : decode k_C_chosenByTurns 36 = .ok (.aload_n 0, 1) := by decide +kernel
theorem d_C_chosenByTurns_37 : decode k_C_chosenByTurns 37 = .ok (.iload_n 3, 1) := by decide +kernel
theorem d_C_chosenByTurns_38 : decode k_C_chosenByTurns 38 = .ok (.iload_n 1, 1) := by decide +kernel
theorem d_C_chosenByTurns_39 : decode k_C_chosenByTurns 39 = .ok (.invokevirtual 37, 3) := by decide +kernel
theorem d_C_chosenByTurns_42 : decode k_C_chosenByTurns 42 = .ok (.ifCond .eq 5, 3) := by decide +kernel
theorem d_C_chosenByTurns_45 : decode k_C_chosenByTurns 45 = .ok (.iload_n 3, 1) := by decide +kernel
theorem d_C_chosenByTurns_46 : decode k_C_chosenByTurns 46 = .ok (.ireturn, 1) := by decide +kernel
theorem d_C_chosenByTurns_47 : decode k_C_chosenByTurns 47 = .ok (.iinc 2 1, 3) := by decide +kernel
theorem d_C_chosenByTurns_50 : decode k_C_chosenByTurns 50 = .ok (.goto (-48), 3) := by decide +kernel
theorem d_C_chosenByTurns_53 : decode k_C_chosenByTurns 53 = .ok (.iconst (-1), 1) := by decide +kernel
theorem d_C_chosenByTurns_54 : decode k_C_chosenByTurns 54 = .ok (.ireturn, 1) := by decide +kernel
theorem d_G_init_0 : decode k_G_init 0 = .ok (.aload_n 0, 1) := by decide +kernel
theorem d_G_init_1 : decode k_G_init 1 = .ok (.invokespecial 3, 3) := by decide +kernel
theorem d_G_init_4 : decode k_G_init 4 = .ok (.aload_n 0, 1) := by decide +kernel
theorem d_G_init_5 : decode k_G_init 5 = .ok (.sipush 2560, 3) := by decide +kernel
theorem d_G_init_8 : decode k_G_init 8 = .ok (.newarray .int, 2) := by decide +kernel
theorem d_G_init_10 : decode k_G_init 10 = .ok (.putfield 11, 3) := by decide +kernel
theorem d_G_init_13 : decode k_G_init 13 = .ok (.aload_n 0, 1) := by decide +kernel
theorem d_G_init_14 : decode k_G_init 14 = .ok (.iconst 5, 1) := by decide +kernel
theorem d_G_init_15 : decode k_G_init 15 = .ok (.newarray .int, 2) := by decide +kernel
theorem d_G_init_17 : decode k_G_init 17 = .ok (.putfield 15, 3) := by decide +kernel
theorem d_G_init_20 : decode k_G_init 20 = .ok (.return_, 1) := by decide +kernel
theorem d_G_add_0 : decode k_G_add 0 = .ok (.aload_n 0, 1) := by decide +kernel
theorem d_G_add_1 : decode k_G_add 1 = .ok (.aload_n 0, 1) := by decide +kernel
theorem d_G_add_2 : decode k_G_add 2 = .ok (.getfield 18, 3) := by decide +kernel
theorem d_G_add_5 : decode k_G_add 5 = .ok (.invokevirtual 22, 3) := by decide +kernel
theorem d_G_add_8 : decode k_G_add 8 = .ok (.istore 6, 2) := by decide +kernel
theorem d_G_add_10 : decode k_G_add 10 = .ok (.aload_n 0, 1) := by decide +kernel
theorem d_G_add_11 : decode k_G_add 11 = .ok (.getfield 11, 3) := by decide +kernel
theorem d_G_add_14 : decode k_G_add 14 = .ok (.iload 6, 2) := by decide +kernel
theorem d_G_add_16 : decode k_G_add 16 = .ok (.iload_n 1, 1) := by decide +kernel
theorem d_G_add_17 : decode k_G_add 17 = .ok (.iastore, 1) := by decide +kernel
theorem d_G_add_18 : decode k_G_add 18 = .ok (.aload_n 0, 1) := by decide +kernel
theorem d_G_add_19 : decode k_G_add 19 = .ok (.getfield 11, 3) := by decide +kernel
theorem d_G_add_22 : decode k_G_add 22 = .ok (.iload 6, 2) := by decide +kernel
theorem d_G_add_24 : decode k_G_add 24 = .ok (.iconst 1, 1) := by decide +kernel
theorem d_G_add_25 : decode k_G_add 25 = .ok (.iadd, 1) := by decide +kernel
theorem d_G_add_26 : decode k_G_add 26 = .ok (.iload_n 2, 1) := by decide +kernel
theorem d_G_add_27 : decode k_G_add 27 = .ok (.iastore, 1) := by decide +kernel
theorem d_G_add_28 : decode k_G_add 28 = .ok (.aload_n 0, 1) := by decide +kernel
theorem d_G_add_29 : decode k_G_add 29 = .ok (.getfield 11, 3) := by decide +kernel
theorem d_G_add_32 : decode k_G_add 32 = .ok (.iload 6, 2) := by decide +kernel
theorem d_G_add_34 : decode k_G_add 34 = .ok (.iconst 2, 1) := by decide +kernel
theorem d_G_add_35 : decode k_G_add 35 = .ok (.iadd, 1) := by decide +kernel
theorem d_G_add_36 : decode k_G_add 36 = .ok (.iload_n 3, 1) := by decide +kernel
theorem d_G_add_37 : decode k_G_add 37 = .ok (.iastore, 1) := by decide +kernel
theorem d_G_add_38 : decode k_G_add 38 = .ok (.aload_n 0, 1) := by decide +kernel
theorem d_G_add_39 : decode k_G_add 39 = .ok (.getfield 11, 3) := by decide +kernel
theorem d_G_add_42 : decode k_G_add 42 = .ok (.iload 6, 2) := by decide +kernel
theorem d_G_add_44 : decode k_G_add 44 = .ok (.iconst 3, 1) := by decide +kernel
theorem d_G_add_45 : decode k_G_add 45 = .ok (.iadd, 1) := by decide +kernel
theorem d_G_add_46 : decode k_G_add 46 = .ok (.iload 4, 2) := by decide +kernel
theorem d_G_add_48 : decode k_G_add 48 = .ok (.iastore, 1) := by decide +kernel
theorem d_G_add_49 : decode k_G_add 49 = .ok (.aload_n 0, 1) := by decide +kernel
theorem d_G_add_50 : decode k_G_add 50 = .ok (.getfield 11, 3) := by decide +kernel
theorem d_G_add_53 : decode k_G_add 53 = .ok (.iload 6, 2) := by decide +kernel
theorem d_G_add_55 : decode k_G_add 55 = .ok (.iconst 4, 1) := by decide +kernel
theorem d_G_add_56 : decode k_G_add 56 = .ok (.iadd, 1) := by decide +kernel
theorem d_G_add_57 : decode k_G_add 57 = .ok (.iload 5, 2) := by decide +kernel
theorem d_G_add_59 : decode k_G_add 59 = .ok (.iastore, 1) := by decide +kernel
theorem d_G_add_60 : decode k_G_add 60 = .ok (.aload_n 0, 1) := by decide +kernel
theorem d_G_add_61 : decode k_G_add 61 = .ok (.getfield 18, 3) := by decide +kernel
theorem d_G_add_64 : decode k_G_add 64 = .ok (.sipush 512, 3) := by decide +kernel
theorem d_G_add_67 : decode k_G_add 67 = .ok (.if_icmp .ge 16, 3) := by decide +kernel
theorem d_G_add_70 : decode k_G_add 70 = .ok (.aload_n 0, 1) := by decide +kernel
theorem d_G_add_71 : decode k_G_add 71 = .ok (.dup, 1) := by decide +kernel
theorem d_G_add_72 : decode k_G_add 72 = .ok (.getfield 18, 3) := by decide +kernel
theorem d_G_add_75 : decode k_G_add 75 = .ok (.iconst 1, 1) := by decide +kernel
theorem d_G_add_76 : decode k_G_add 76 = .ok (.iadd, 1) := by decide +kernel
theorem d_G_add_77 : decode k_G_add 77 = .ok (.putfield 18, 3) := by decide +kernel
theorem d_G_add_80 : decode k_G_add 80 = .ok (.goto 17, 3) := by decide +kernel
theorem d_G_add_83 : decode k_G_add 83 = .ok (.aload_n 0, 1) := by decide +kernel
theorem d_G_add_84 : decode k_G_add 84 = .ok (.aload_n 0, 1) := by decide +kernel
theorem d_G_add_85 : decode k_G_add 85 = .ok (.getfield 26, 3) := by decide +kernel
theorem d_G_add_88 : decode k_G_add 88 = .ok (.iconst 1, 1) := by decide +kernel
theorem d_G_add_89 : decode k_G_add 89 = .ok (.iadd, 1) := by decide +kernel
theorem d_G_add_90 : decode k_G_add 90 = .ok (.sipush 512, 3) := by decide +kernel
theorem d_G_add_93 : decode k_G_add 93 = .ok (.irem, 1) := by decide +kernel
theorem d_G_add_94 : decode k_G_add 94 = .ok (.putfield 26, 3) := by decide +kernel
theorem d_G_add_97 : decode k_G_add 97 = .ok (.aload_n 0, 1) := by decide +kernel
theorem d_G_add_98 : decode k_G_add 98 = .ok (.getfield 15, 3) := by decide +kernel
theorem d_G_add_101 : decode k_G_add 101 = .ok (.iload_n 3, 1) := by decide +kernel
theorem d_G_add_102 : decode k_G_add 102 = .ok (.dup2, 1) := by decide +kernel
theorem d_G_add_103 : decode k_G_add 103 = .ok (.iaload, 1) := by decide +kernel
theorem d_G_add_104 : decode k_G_add 104 = .ok (.iconst 1, 1) := by decide +kernel
theorem d_G_add_105 : decode k_G_add 105 = .ok (.iadd, 1) := by decide +kernel
theorem d_G_add_106 : decode k_G_add 106 = .ok (.iastore, 1) := by decide +kernel
theorem d_G_add_107 : decode k_G_add 107 = .ok (.aload_n 0, 1) := by decide +kernel
theorem d_G_add_108 : decode k_G_add 108 = .ok (.dup, 1) := by decide +kernel
theorem d_G_add_109 : decode k_G_add 109 = .ok (.getfield 29, 3) := by decide +kernel
theorem d_G_add_112 : decode k_G_add 112 = .ok (.iconst 1, 1) := by decide +kernel
theorem d_G_add_113 : decode k_G_add 113 = .ok (.iadd, 1) := by decide +kernel
theorem d_G_add_114 : decode k_G_add 114 = .ok (.putfield 29, 3) := by decide +kernel
theorem d_G_add_117 : decode k_G_add 117 = .ok (.return_, 1) := by decide +kernel
theorem d_G_partOf_0 : decode k_G_partOf 0 = .ok (.aload_n 0, 1) := by decide +kernel
theorem d_G_partOf_1 : decode k_G_partOf 1 = .ok (.getfield 11, 3) := by decide +kernel
theorem d_G_partOf_4 : decode k_G_partOf 4 = .ok (.aload_n 0, 1) := by decide +kernel
theorem d_G_partOf_5 : decode k_G_partOf 5 = .ok (.iload_n 1, 1) := by decide +kernel
theorem d_G_partOf_6 : decode k_G_partOf 6 = .ok (.invokevirtual 22, 3) := by decide +kernel
theorem d_G_partOf_9 : decode k_G_partOf 9 = .ok (.iload_n 2, 1) := by decide +kernel
theorem d_G_partOf_10 : decode k_G_partOf 10 = .ok (.iadd, 1) := by decide +kernel
theorem d_G_partOf_11 : decode k_G_partOf 11 = .ok (.iaload, 1) := by decide +kernel
theorem d_G_partOf_12 : decode k_G_partOf 12 = .ok (.ireturn, 1) := by decide +kernel
theorem d_G_placeOf_0 : decode k_G_placeOf 0 = .ok (.aload_n 0, 1) := by decide +kernel
theorem d_G_placeOf_1 : decode k_G_placeOf 1 = .ok (.getfield 26, 3) := by decide +kernel
theorem d_G_placeOf_4 : decode k_G_placeOf 4 = .ok (.iload_n 1, 1) := by decide +kernel
theorem d_G_placeOf_5 : decode k_G_placeOf 5 = .ok (.iadd, 1) := by decide +kernel
theorem d_G_placeOf_6 : decode k_G_placeOf 6 = .ok (.sipush 512, 3) := by decide +kernel
theorem d_G_placeOf_9 : decode k_G_placeOf 9 = .ok (.irem, 1) := by decide +kernel
theorem d_G_placeOf_10 : decode k_G_placeOf 10 = .ok (.iconst 5, 1) := by decide +kernel
theorem d_G_placeOf_11 : decode k_G_placeOf 11 = .ok (.imul, 1) := by decide +kernel
theorem d_G_placeOf_12 : decode k_G_placeOf 12 = .ok (.ireturn, 1) := by decide +kernel
theorem d_Q_init_0 : decode k_Q_init 0 = .ok (.aload_n 0, 1) := by decide +kernel
theorem d_Q_init_1 : decode k_Q_init 1 = .ok (.invokespecial 3, 3) := by decide +kernel
theorem d_Q_init_4 : decode k_Q_init 4 = .ok (.aload_n 0, 1) := by decide +kernel
theorem d_Q_init_5 : decode k_Q_init 5 = .ok (.bipush 8, 2) := by decide +kernel
theorem d_Q_init_7 : decode k_Q_init 7 = .ok (.newarray .int, 2) := by decide +kernel
theorem d_Q_init_9 : decode k_Q_init 9 = .ok (.putfield 11, 3) := by decide +kernel
theorem d_Q_init_12 : decode k_Q_init 12 = .ok (.aload_n 0, 1) := by decide +kernel
theorem d_Q_init_13 : decode k_Q_init 13 = .ok (.bipush 8, 2) := by decide +kernel
theorem d_Q_init_15 : decode k_Q_init 15 = .ok (.newarray .int, 2) := by decide +kernel
theorem d_Q_init_17 : decode k_Q_init 17 = .ok (.putfield 15, 3) := by decide +kernel
theorem d_Q_init_20 : decode k_Q_init 20 = .ok (.aload_n 0, 1) := by decide +kernel
theorem d_Q_init_21 : decode k_Q_init 21 = .ok (.bipush 8, 2) := by decide +kernel
theorem d_Q_init_23 : decode k_Q_init 23 = .ok (.newarray .int, 2) := by decide +kernel
theorem d_Q_init_25 : decode k_Q_init 25 = .ok (.putfield 18, 3) := by decide +kernel
theorem d_Q_init_28 : decode k_Q_init 28 = .ok (.aload_n 0, 1) := by decide +kernel
theorem d_Q_init_29 : decode k_Q_init 29 = .ok (.bipush 8, 2) := by decide +kernel
theorem d_Q_init_31 : decode k_Q_init 31 = .ok (.newarray .int, 2) := by decide +kernel
theorem d_Q_init_33 : decode k_Q_init 33 = .ok (.putfield 21, 3) := by decide +kernel
theorem d_Q_init_36 : decode k_Q_init 36 = .ok (.aload_n 0, 1) := by decide +kernel
theorem d_Q_init_37 : decode k_Q_init 37 = .ok (.bipush 8, 2) := by decide +kernel
theorem d_Q_init_39 : decode k_Q_init 39 = .ok (.newarray .boolean, 2) := by decide +kernel
theorem d_Q_init_41 : decode k_Q_init 41 = .ok (.putfield 24, 3) := by decide +kernel
theorem d_Q_init_44 : decode k_Q_init 44 = .ok (.return_, 1) := by decide +kernel
theorem d_Q_isFull_0 : decode k_Q_isFull 0 = .ok (.aload_n 0, 1) := by decide +kernel
theorem d_Q_isFull_1 : decode k_Q_isFull 1 = .ok (.getfield 28, 3) := by decide +kernel
theorem d_Q_isFull_4 : decode k_Q_isFull 4 = .ok (.bipush 8, 2) := by decide +kernel
theorem d_Q_isFull_6 : decode k_Q_isFull 6 = .ok (.if_icmp .lt 7, 3) := by decide +kernel
theorem d_Q_isFull_9 : decode k_Q_isFull 9 = .ok (.iconst 1, 1) := by decide +kernel
theorem d_Q_isFull_10 : decode k_Q_isFull 10 = .ok (.goto 4, 3) := by decide +kernel
theorem d_Q_isFull_13 : decode k_Q_isFull 13 = .ok (.iconst 0, 1) := by decide +kernel
theorem d_Q_isFull_14 : decode k_Q_isFull 14 = .ok (.ireturn, 1) := by decide +kernel
theorem d_Q_add_0 : decode k_Q_add 0 = .ok (.aload_n 0, 1) := by decide +kernel
theorem d_Q_add_1 : decode k_Q_add 1 = .ok (.getfield 11, 3) := by decide +kernel
theorem d_Q_add_4 : decode k_Q_add 4 = .ok (.aload_n 0, 1) := by decide +kernel
theorem d_Q_add_5 : decode k_Q_add 5 = .ok (.getfield 28, 3) := by decide +kernel
theorem d_Q_add_8 : decode k_Q_add 8 = .ok (.iload_n 1, 1) := by decide +kernel
theorem d_Q_add_9 : decode k_Q_add 9 = .ok (.iastore, 1) := by decide +kernel
theorem d_Q_add_10 : decode k_Q_add 10 = .ok (.aload_n 0, 1) := by decide +kernel
theorem d_Q_add_11 : decode k_Q_add 11 = .ok (.getfield 15, 3) := by decide +kernel
theorem d_Q_add_14 : decode k_Q_add 14 = .ok (.aload_n 0, 1) := by decide +kernel
theorem d_Q_add_15 : decode k_Q_add 15 = .ok (.getfield 28, 3) := by decide +kernel
theorem d_Q_add_18 : decode k_Q_add 18 = .ok (.iload_n 2, 1) := by decide +kernel
theorem d_Q_add_19 : decode k_Q_add 19 = .ok (.iastore, 1) := by decide +kernel
theorem d_Q_add_20 : decode k_Q_add 20 = .ok (.aload_n 0, 1) := by decide +kernel
theorem d_Q_add_21 : decode k_Q_add 21 = .ok (.getfield 18, 3) := by decide +kernel
theorem d_Q_add_24 : decode k_Q_add 24 = .ok (.aload_n 0, 1) := by decide +kernel
theorem d_Q_add_25 : decode k_Q_add 25 = .ok (.getfield 28, 3) := by decide +kernel
theorem d_Q_add_28 : decode k_Q_add 28 = .ok (.iload_n 3, 1) := by decide +kernel
theorem d_Q_add_29 : decode k_Q_add 29 = .ok (.iastore, 1) := by decide +kernel
theorem d_Q_add_30 : decode k_Q_add 30 = .ok (.aload_n 0, 1) := by decide +kernel
theorem d_Q_add_31 : decode k_Q_add 31 = .ok (.getfield 21, 3) := by decide +kernel
theorem d_Q_add_34 : decode k_Q_add 34 = .ok (.aload_n 0, 1) := by decide +kernel
theorem d_Q_add_35 : decode k_Q_add 35 = .ok (.getfield 28, 3) := by decide +kernel
theorem d_Q_add_38 : decode k_Q_add 38 = .ok (.iload 4, 2) := by decide +kernel
theorem d_Q_add_40 : decode k_Q_add 40 = .ok (.iastore, 1) := by decide +kernel
theorem d_Q_add_41 : decode k_Q_add 41 = .ok (.aload_n 0, 1) := by decide +kernel
theorem d_Q_add_42 : decode k_Q_add 42 = .ok (.getfield 24, 3) := by decide +kernel
theorem d_Q_add_45 : decode k_Q_add 45 = .ok (.aload_n 0, 1) := by decide +kernel
theorem d_Q_add_46 : decode k_Q_add 46 = .ok (.getfield 28, 3) := by decide +kernel
theorem d_Q_add_49 : decode k_Q_add 49 = .ok (.iload 5, 2) := by decide +kernel
theorem d_Q_add_51 : decode k_Q_add 51 = .ok (.bastore, 1) := by decide +kernel
theorem d_Q_add_52 : decode k_Q_add 52 = .ok (.aload_n 0, 1) := by decide +kernel
theorem d_Q_add_53 : decode k_Q_add 53 = .ok (.dup, 1) := by decide +kernel
theorem d_Q_add_54 : decode k_Q_add 54 = .ok (.getfield 28, 3) := by decide +kernel
theorem d_Q_add_57 : decode k_Q_add 57 = .ok (.iconst 1, 1) := by decide +kernel
theorem d_Q_add_58 : decode k_Q_add 58 = .ok (.iadd, 1) := by decide +kernel
theorem d_Q_add_59 : decode k_Q_add 59 = .ok (.putfield 28, 3) := by decide +kernel
theorem d_Q_add_62 : decode k_Q_add 62 = .ok (.iload 5, 2) := by decide +kernel
theorem d_Q_add_64 : decode k_Q_add 64 = .ok (.ifCond .eq 13, 3) := by decide +kernel
theorem d_Q_add_67 : decode k_Q_add 67 = .ok (.aload_n 0, 1) := by decide +kernel
theorem d_Q_add_68 : decode k_Q_add 68 = .ok (.dup, 1) := by decide +kernel
theorem d_Q_add_69 : decode k_Q_add 69 = .ok (.getfield 32, 3) := by decide +kernel
theorem d_Q_add_72 : decode k_Q_add 72 = .ok (.iconst 1, 1) := by decide +kernel
theorem d_Q_add_73 : decode k_Q_add 73 = .ok (.iadd, 1) := by decide +kernel
theorem d_Q_add_74 : decode k_Q_add 74 = .ok (.putfield 32, 3) := by decide +kernel
theorem d_Q_add_77 : decode k_Q_add 77 = .ok (.return_, 1) := by decide +kernel
theorem d_Q_removeAt_0 : decode k_Q_removeAt 0 = .ok (.aload_n 0, 1) := by decide +kernel
theorem d_Q_removeAt_1 : decode k_Q_removeAt 1 = .ok (.getfield 24, 3) := by decide +kernel
theorem d_Q_removeAt_4 : decode k_Q_removeAt 4 = .ok (.iload_n 1, 1) := by decide +kernel
theorem d_Q_removeAt_5 : decode k_Q_removeAt 5 = .ok (.baload, 1) := by decide +kernel
theorem d_Q_removeAt_6 : decode k_Q_removeAt 6 = .ok (.ifCond .eq 13, 3) := by decide +kernel
theorem d_Q_removeAt_9 : decode k_Q_removeAt 9 = .ok (.aload_n 0, 1) := by decide +kernel
theorem d_Q_removeAt_10 : decode k_Q_removeAt 10 = .ok (.dup, 1) := by decide +kernel
theorem d_Q_removeAt_11 : decode k_Q_removeAt 11 = .ok (.getfield 32, 3) := by decide +kernel
theorem d_Q_removeAt_14 : decode k_Q_removeAt 14 = .ok (.iconst 1, 1) := by decide +kernel
theorem d_Q_removeAt_15 : decode k_Q_removeAt 15 = .ok (.isub, 1) := by decide +kernel
theorem d_Q_removeAt_16 : decode k_Q_removeAt 16 = .ok (.putfield 32, 3) := by decide +kernel
theorem d_Q_removeAt_19 : decode k_Q_removeAt 19 = .ok (.aload_n 0, 1) := by decide +kernel
theorem d_Q_removeAt_20 : decode k_Q_removeAt 20 = .ok (.dup, 1) := by decide +kernel
theorem d_Q_removeAt_21 : decode k_Q_removeAt 21 = .ok (.getfield 28, 3) := by decide +kernel
theorem d_Q_removeAt_24 : decode k_Q_removeAt 24 = .ok (.iconst 1, 1) := by decide +kernel
theorem d_Q_removeAt_25 : decode k_Q_removeAt 25 = .ok (.isub, 1) := by decide +kernel
theorem d_Q_removeAt_26 : decode k_Q_removeAt 26 = .ok (.putfield 28, 3) := by decide +kernel
theorem d_Q_removeAt_29 : decode k_Q_removeAt 29 = .ok (.iload_n 1, 1) := by decide +kernel
theorem d_Q_removeAt_30 : decode k_Q_removeAt 30 = .ok (.istore_n 2, 1) := by decide +kernel
theorem d_Q_removeAt_31 : decode k_Q_removeAt 31 = .ok (.iload_n 2, 1) := by decide +kernel
theorem d_Q_removeAt_32 : decode k_Q_removeAt 32 = .ok (.aload_n 0, 1) := by decide +kernel
theorem d_Q_removeAt_33 : decode k_Q_removeAt 33 = .ok (.getfield 28, 3) := by decide +kernel
theorem d_Q_removeAt_36 : decode k_Q_removeAt 36 = .ok (.if_icmp .ge 79, 3) := by decide +kernel
theorem d_Q_removeAt_39 : decode k_Q_removeAt 39 = .ok (.aload_n 0, 1) := by decide +kernel
theorem d_Q_removeAt_40 : decode k_Q_removeAt 40 = .ok (.getfield 11, 3) := by decide +kernel
theorem d_Q_removeAt_43 : decode k_Q_removeAt 43 = .ok (.iload_n 2, 1) := by decide +kernel
theorem d_Q_removeAt_44 : decode k_Q_removeAt 44 = .ok (.aload_n 0, 1) := by decide +kernel
theorem d_Q_removeAt_45 : decode k_Q_removeAt 45 = .ok (.getfield 11, 3) := by decide +kernel
theorem d_Q_removeAt_48 : decode k_Q_removeAt 48 = .ok (.iload_n 2, 1) := by decide +kernel
theorem d_Q_removeAt_49 : decode k_Q_removeAt 49 = .ok (.iconst 1, 1) := by decide +kernel
theorem d_Q_removeAt_50 : decode k_Q_removeAt 50 = .ok (.iadd, 1) := by decide +kernel
theorem d_Q_removeAt_51 : decode k_Q_removeAt 51 = .ok (.iaload, 1) := by decide +kernel
theorem d_Q_removeAt_52 : decode k_Q_removeAt 52 = .ok (.iastore, 1) := by decide +kernel
theorem d_Q_removeAt_53 : decode k_Q_removeAt 53 = .ok (.aload_n 0, 1) := by decide +kernel
theorem d_Q_removeAt_54 : decode k_Q_removeAt 54 = .ok (.getfield 15, 3) := by decide +kernel
theorem d_Q_removeAt_57 : decode k_Q_removeAt 57 = .ok (.iload_n 2, 1) := by decide +kernel
theorem d_Q_removeAt_58 : decode k_Q_removeAt 58 = .ok (.aload_n 0, 1) := by decide +kernel
theorem d_Q_removeAt_59 : decode k_Q_removeAt 59 = .ok (.getfield 15, 3) := by decide +kernel
theorem d_Q_removeAt_62 : decode k_Q_removeAt 62 = .ok (.iload_n 2, 1) := by decide +kernel
theorem d_Q_removeAt_63 : decode k_Q_removeAt 63 = .ok (.iconst 1, 1) := by decide +kernel
theorem d_Q_removeAt_64 : decode k_Q_removeAt 64 = .ok (.iadd, 1) := by decide +kernel
theorem d_Q_removeAt_65 : decode k_Q_removeAt 65 = .ok (.iaload, 1) := by decide +kernel
theorem d_Q_removeAt_66 : decode k_Q_removeAt 66 = .ok (.iastore, 1) := by decide +kernel
theorem d_Q_removeAt_67 : decode k_Q_removeAt 67 = .ok (.aload_n 0, 1) := by decide +kernel
theorem d_Q_removeAt_68 : decode k_Q_removeAt 68 = .ok (.getfield 18, 3) := by decide +kernel
theorem d_Q_removeAt_71 : decode k_Q_removeAt 71 = .ok (.iload_n 2, 1) := by decide +kernel
theorem d_Q_removeAt_72 : decode k_Q_removeAt 72 = .ok (.aload_n 0, 1) := by decide +kernel
theorem d_Q_removeAt_73 : decode k_Q_removeAt 73 = .ok (.getfield 18, 3) := by decide +kernel
theorem d_Q_removeAt_76 : decode k_Q_removeAt 76 = .ok (.iload_n 2, 1) := by decide +kernel
theorem d_Q_removeAt_77 : decode k_Q_removeAt 77 = .ok (.iconst 1, 1) := by decide +kernel
theorem d_Q_removeAt_78 : decode k_Q_removeAt 78 = .ok (.iadd, 1) := by decide +kernel
theorem d_Q_removeAt_79 : decode k_Q_removeAt 79 = .ok (.iaload, 1) := by decide +kernel
theorem d_Q_removeAt_80 : decode k_Q_removeAt 80 = .ok (.iastore, 1) := by decide +kernel
theorem d_Q_removeAt_81 : decode k_Q_removeAt 81 = .ok (.aload_n 0, 1) := by decide +kernel
theorem d_Q_removeAt_82 : decode k_Q_removeAt 82 = .ok (.getfield 21, 3) := by decide +kernel
theorem d_Q_removeAt_85 : decode k_Q_removeAt 85 = .ok (.iload_n 2, 1) := by decide +kernel
theorem d_Q_removeAt_86 : decode k_Q_removeAt 86 = .ok (.aload_n 0, 1) := by decide +kernel
theorem d_Q_removeAt_87 : decode k_Q_removeAt 87 = .ok (.getfield 21, 3) := by decide +kernel
theorem d_Q_removeAt_90 : decode k_Q_removeAt 90 = .ok (.iload_n 2, 1) := by decide +kernel
theorem d_Q_removeAt_91 : decode k_Q_removeAt 91 = .ok (.iconst 1, 1) := by decide +kernel
theorem d_Q_removeAt_92 : decode k_Q_removeAt 92 = .ok (.iadd, 1) := by decide +kernel
theorem d_Q_removeAt_93 : decode k_Q_removeAt 93 = .ok (.iaload, 1) := by decide +kernel
theorem d_Q_removeAt_94 : decode k_Q_removeAt 94 = .ok (.iastore, 1) := by decide +kernel
theorem d_Q_removeAt_95 : decode k_Q_removeAt 95 = .ok (.aload_n 0, 1) := by decide +kernel
theorem d_Q_removeAt_96 : decode k_Q_removeAt 96 = .ok (.getfield 24, 3) := by decide +kernel
theorem d_Q_removeAt_99 : decode k_Q_removeAt 99 = .ok (.iload_n 2, 1) := by decide +kernel
theorem d_Q_removeAt_100 : decode k_Q_removeAt 100 = .ok (.aload_n 0, 1) := by decide +kernel
theorem d_Q_removeAt_101 : decode k_Q_removeAt 101 = .ok (.getfield 24, 3) := by decide +kernel
theorem d_Q_removeAt_104 : decode k_Q_removeAt 104 = .ok (.iload_n 2, 1) := by decide +kernel
theorem d_Q_removeAt_105 : decode k_Q_removeAt 105 = .ok (.iconst 1, 1) := by decide +kernel
theorem d_Q_removeAt_106 : decode k_Q_removeAt 106 = .ok (.iadd, 1) := by decide +kernel
theorem d_Q_removeAt_107 : decode k_Q_removeAt 107 = .ok (.baload, 1) := by decide +kernel
theorem d_Q_removeAt_108 : decode k_Q_removeAt 108 = .ok (.bastore, 1) := by decide +kernel
theorem d_Q_removeAt_109 : decode k_Q_removeAt 109 = .ok (.iinc 2 1, 3) := by decide +kernel
theorem d_Q_removeAt_112 : decode k_Q_removeAt 112 = .ok (.goto (-81), 3) := by decide +kernel
theorem d_Q_removeAt_115 : decode k_Q_removeAt 115 = .ok (.return_, 1) := by decide +kernel
theorem d_Q_oldestOf_0 : decode k_Q_oldestOf 0 = .ok (.iconst 0, 1) := by decide +kernel
theorem d_Q_oldestOf_1 : decode k_Q_oldestOf 1 = .ok (.istore_n 2, 1) := by decide +kernel
theorem d_Q_oldestOf_2 : decode k_Q_oldestOf 2 = .ok (.iload_n 2, 1) := by decide +kernel
theorem d_Q_oldestOf_3 : decode k_Q_oldestOf 3 = .ok (.aload_n 0, 1) := by decide +kernel
theorem d_Q_oldestOf_4 : decode k_Q_oldestOf 4 = .ok (.getfield 28, 3) := by decide +kernel
theorem d_Q_oldestOf_7 : decode k_Q_oldestOf 7 = .ok (.if_icmp .ge 21, 3) := by decide +kernel
theorem d_Q_oldestOf_10 : decode k_Q_oldestOf 10 = .ok (.aload_n 0, 1) := by decide +kernel
theorem d_Q_oldestOf_11 : decode k_Q_oldestOf 11 = .ok (.getfield 18, 3) := by decide +kernel
theorem d_Q_oldestOf_14 : decode k_Q_oldestOf 14 = .ok (.iload_n 2, 1) := by decide +kernel
theorem d_Q_oldestOf_15 : decode k_Q_oldestOf 15 = .ok (.iaload, 1) := by decide +kernel
theorem d_Q_oldestOf_16 : decode k_Q_oldestOf 16 = .ok (.iload_n 1, 1) := by decide +kernel
theorem d_Q_oldestOf_17 : decode k_Q_oldestOf 17 = .ok (.if_icmp .ne 5, 3) := by decide +kernel
theorem d_Q_oldestOf_20 : decode k_Q_oldestOf 20 = .ok (.iload_n 2, 1) := by decide +kernel
theorem d_Q_oldestOf_21 : decode k_Q_oldestOf 21 = .ok (.ireturn, 1) := by decide +kernel
theorem d_Q_oldestOf_22 : decode k_Q_oldestOf 22 = .ok (.iinc 2 1, 3) := by decide +kernel
theorem d_Q_oldestOf_25 : decode k_Q_oldestOf 25 = .ok (.goto (-23), 3) := by decide +kernel
theorem d_Q_oldestOf_28 : decode k_Q_oldestOf 28 = .ok (.iconst (-1), 1) := by decide +kernel
theorem d_Q_oldestOf_29 : decode k_Q_oldestOf 29 = .ok (.ireturn, 1) := by decide +kernel
theorem d_R_init_0 : decode k_R_init 0 = .ok (.aload_n 0, 1) := by decide +kernel
theorem d_R_init_1 : decode k_R_init 1 = .ok (.invokespecial 3, 3) := by decide +kernel
theorem d_R_init_4 : decode k_R_init 4 = .ok (.aload_n 0, 1) := by decide +kernel
theorem d_R_init_5 : decode k_R_init 5 = .ok (.aload_n 2, 1) := by decide +kernel
theorem d_R_init_6 : decode k_R_init 6 = .ok (.putfield 9, 3) := by decide +kernel
theorem d_R_init_9 : decode k_R_init 9 = .ok (.aload_n 0, 1) := by decide +kernel
theorem d_R_init_10 : decode k_R_init 10 = .ok (.iload_n 1, 1) := by decide +kernel
theorem d_R_init_11 : decode k_R_init 11 = .ok (.newarray .int, 2) := by decide +kernel
theorem d_R_init_13 : decode k_R_init 13 = .ok (.putfield 15, 3) := by decide +kernel
theorem d_R_init_16 : decode k_R_init 16 = .ok (.aload_n 0, 1) := by decide +kernel
theorem d_R_init_17 : decode k_R_init 17 = .ok (.iload_n 1, 1) := by decide +kernel
theorem d_R_init_18 : decode k_R_init 18 = .ok (.newarray .int, 2) := by decide +kernel
theorem d_R_init_20 : decode k_R_init 20 = .ok (.putfield 18, 3) := by decide +kernel
theorem d_R_init_23 : decode k_R_init 23 = .ok (.aload_n 0, 1) := by decide +kernel
theorem d_R_init_24 : decode k_R_init 24 = .ok (.iload_n 1, 1) := by decide +kernel
theorem d_R_init_25 : decode k_R_init 25 = .ok (.newarray .int, 2) := by decide +kernel
theorem d_R_init_27 : decode k_R_init 27 = .ok (.putfield 21, 3) := by decide +kernel
theorem d_R_init_30 : decode k_R_init 30 = .ok (.aload_n 0, 1) := by decide +kernel
theorem d_R_init_31 : decode k_R_init 31 = .ok (.iload_n 1, 1) := by decide +kernel
theorem d_R_init_32 : decode k_R_init 32 = .ok (.newarray .int, 2) := by decide +kernel
theorem d_R_init_34 : decode k_R_init 34 = .ok (.putfield 24, 3) := by decide +kernel
theorem d_R_init_37 : decode k_R_init 37 = .ok (.aload_n 0, 1) := by decide +kernel
theorem d_R_init_38 : decode k_R_init 38 = .ok (.iload_n 1, 1) := by decide +kernel
theorem d_R_init_39 : decode k_R_init 39 = .ok (.newarray .int, 2) := by decide +kernel
theorem d_R_init_41 : decode k_R_init 41 = .ok (.putfield 27, 3) := by decide +kernel
theorem d_R_init_44 : decode k_R_init 44 = .ok (.aload_n 0, 1) := by decide +kernel
theorem d_R_init_45 : decode k_R_init 45 = .ok (.iconst 4, 1) := by decide +kernel
theorem d_R_init_46 : decode k_R_init 46 = .ok (.newarray .int, 2) := by decide +kernel
theorem d_R_init_48 : decode k_R_init 48 = .ok (.putfield 30, 3) := by decide +kernel
theorem d_R_init_51 : decode k_R_init 51 = .ok (.aload_n 0, 1) := by decide +kernel
theorem d_R_init_52 : decode k_R_init 52 = .ok (.invokevirtual 33, 3) := by decide +kernel
theorem d_R_init_55 : decode k_R_init 55 = .ok (.return_, 1) := by decide +kernel
theorem d_R_forget_0 : decode k_R_forget 0 = .ok (.aload_n 0, 1) := by decide +kernel
theorem d_R_forget_1 : decode k_R_forget 1 = .ok (.getfield 15, 3) := by decide +kernel
theorem d_R_forget_4 : decode k_R_forget 4 = .ok (.iconst (-1), 1) := by decide +kernel
theorem d_R_forget_5 : decode k_R_forget 5 = .ok (.invokestatic 36, 3) := by decide +kernel
theorem d_R_forget_8 : decode k_R_forget 8 = .ok (.aload_n 0, 1) := by decide +kernel
theorem d_R_forget_9 : decode k_R_forget 9 = .ok (.getfield 18, 3) := by decide +kernel
theorem d_R_forget_12 : decode k_R_forget 12 = .ok (.iconst (-1), 1) := by decide +kernel
theorem d_R_forget_13 : decode k_R_forget 13 = .ok (.invokestatic 36, 3) := by decide +kernel
theorem d_R_forget_16 : decode k_R_forget 16 = .ok (.aload_n 0, 1) := by decide +kernel
theorem d_R_forget_17 : decode k_R_forget 17 = .ok (.getfield 21, 3) := by decide +kernel
theorem d_R_forget_20 : decode k_R_forget 20 = .ok (.iconst (-1), 1) := by decide +kernel
theorem d_R_forget_21 : decode k_R_forget 21 = .ok (.invokestatic 36, 3) := by decide +kernel
theorem d_R_forget_24 : decode k_R_forget 24 = .ok (.aload_n 0, 1) := by decide +kernel
theorem d_R_forget_25 : decode k_R_forget 25 = .ok (.getfield 24, 3) := by decide +kernel
theorem d_R_forget_28 : decode k_R_forget 28 = .ok (.iconst (-1), 1) := by decide +kernel
theorem d_R_forget_29 : decode k_R_forget 29 = .ok (.invokestatic 36, 3) := by decide +kernel
theorem d_R_forget_32 : decode k_R_forget 32 = .ok (.aload_n 0, 1) := by decide +kernel
theorem d_R_forget_33 : decode k_R_forget 33 = .ok (.getfield 27, 3) := by decide +kernel
theorem d_R_forget_36 : decode k_R_forget 36 = .ok (.iconst (-1), 1) := by decide +kernel
theorem d_R_forget_37 : decode k_R_forget 37 = .ok (.invokestatic 36, 3) := by decide +kernel
theorem d_R_forget_40 : decode k_R_forget 40 = .ok (.aload_n 0, 1) := by decide +kernel
theorem d_R_forget_41 : decode k_R_forget 41 = .ok (.getfield 30, 3) := by decide +kernel
theorem d_R_forget_44 : decode k_R_forget 44 = .ok (.iconst (-1), 1) := by decide +kernel
theorem d_R_forget_45 : decode k_R_forget 45 = .ok (.invokestatic 36, 3) := by decide +kernel
theorem d_R_forget_48 : decode k_R_forget 48 = .ok (.aload_n 0, 1) := by decide +kernel
theorem d_R_forget_49 : decode k_R_forget 49 = .ok (.iconst (-1), 1) := by decide +kernel
theorem d_R_forget_50 : decode k_R_forget 50 = .ok (.putfield 42, 3) := by decide +kernel
theorem d_R_forget_53 : decode k_R_forget 53 = .ok (.aload_n 0, 1) := by decide +kernel
theorem d_R_forget_54 : decode k_R_forget 54 = .ok (.iconst (-1), 1) := by decide +kernel
theorem d_R_forget_55 : decode k_R_forget 55 = .ok (.putfield 46, 3) := by decide +kernel
theorem d_R_forget_58 : decode k_R_forget 58 = .ok (.aload_n 0, 1) := by decide +kernel
theorem d_R_forget_59 : decode k_R_forget 59 = .ok (.iconst (-1), 1) := by decide +kernel
theorem d_R_forget_60 : decode k_R_forget 60 = .ok (.putfield 49, 3) := by decide +kernel
theorem d_R_forget_63 : decode k_R_forget 63 = .ok (.aload_n 0, 1) := by decide +kernel
theorem d_R_forget_64 : decode k_R_forget 64 = .ok (.iconst (-1), 1) := by decide +kernel
theorem d_R_forget_65 : decode k_R_forget 65 = .ok (.putfield 52, 3) := by decide +kernel
theorem d_R_forget_68 : decode k_R_forget 68 = .ok (.return_, 1) := by decide +kernel
theorem d_R_anyOpen_0 : decode k_R_anyOpen 0 = .ok (.iconst 0, 1) := by decide +kernel
theorem d_R_anyOpen_1 : decode k_R_anyOpen 1 = .ok (.istore_n 1, 1) := by decide +kernel
theorem d_R_anyOpen_2 : decode k_R_anyOpen 2 = .ok (.iload_n 1, 1) := by decide +kernel
theorem d_R_anyOpen_3 : decode k_R_anyOpen 3 = .ok (.aload_n 0, 1) := by decide +kernel
theorem d_R_anyOpen_4 : decode k_R_anyOpen 4 = .ok (.getfield 15, 3) := by decide +kernel
theorem d_R_anyOpen_7 : decode k_R_anyOpen 7 = .ok (.arraylength, 1) := by decide +kernel
theorem d_R_anyOpen_8 : decode k_R_anyOpen 8 = .ok (.if_icmp .ge 21, 3) := by decide +kernel
theorem d_R_anyOpen_11 : decode k_R_anyOpen 11 = .ok (.aload_n 0, 1) := by decide +kernel
theorem d_R_anyOpen_12 : decode k_R_anyOpen 12 = .ok (.getfield 15, 3) := by decide +kernel
theorem d_R_anyOpen_15 : decode k_R_anyOpen 15 = .ok (.iload_n 1, 1) := by decide +kernel
theorem d_R_anyOpen_16 : decode k_R_anyOpen 16 = .ok (.iaload, 1) := by decide +kernel
theorem d_R_anyOpen_17 : decode k_R_anyOpen 17 = .ok (.iconst (-1), 1) := by decide +kernel
theorem d_R_anyOpen_18 : decode k_R_anyOpen 18 = .ok (.if_icmp .eq 5, 3) := by decide +kernel
theorem d_R_anyOpen_21 : decode k_R_anyOpen 21 = .ok (.iconst 1, 1) := by decide +kernel
theorem d_R_anyOpen_22 : decode k_R_anyOpen 22 = .ok (.ireturn, 1) := by decide +kernel
theorem d_R_anyOpen_23 : decode k_R_anyOpen 23 = .ok (.iinc 1 1, 3) := by decide +kernel
theorem d_R_anyOpen_26 : decode k_R_anyOpen 26 = .ok (.goto (-24), 3) := by decide +kernel
theorem d_R_anyOpen_29 : decode k_R_anyOpen 29 = .ok (.iconst 0, 1) := by decide +kernel
theorem d_R_anyOpen_30 : decode k_R_anyOpen 30 = .ok (.ireturn, 1) := by decide +kernel
theorem d_R_lowestToClose_0 : decode k_R_lowestToClose 0 = .ok (.iconst 0, 1) := by decide +kernel
theorem d_R_lowestToClose_1 : decode k_R_lowestToClose 1 = .ok (.istore_n 2, 1) := by decide +kernel
theorem d_R_lowestToClose_2 : decode k_R_lowestToClose 2 = .ok (.iload_n 2, 1) := by decide +kernel
theorem d_R_lowestToClose_3 : decode k_R_lowestToClose 3 = .ok (.aload_n 0, 1) := by decide +kernel
theorem d_R_lowestToClose_4 : decode k_R_lowestToClose 4 = .ok (.getfield 15, 3) := by decide +kernel
theorem d_R_lowestToClose_7 : decode k_R_lowestToClose 7 = .ok (.arraylength, 1) := by decide +kernel
theorem d_R_lowestToClose_8 : decode k_R_lowestToClose 8 = .ok (.if_icmp .ge 32, 3) := by decide +kernel
theorem d_R_lowestToClose_11 : decode k_R_lowestToClose 11 = .ok (.aload_n 0, 1) := by decide +kernel
theorem d_R_lowestToClose_12 : decode k_R_lowestToClose 12 = .ok (.getfield 15, 3) := by decide +kernel
theorem d_R_lowestToClose_15 : decode k_R_lowestToClose 15 = .ok (.iload_n 2, 1) := by decide +kernel
theorem d_R_lowestToClose_16 : decode k_R_lowestToClose 16 = .ok (.iaload, 1) := by decide +kernel
theorem d_R_lowestToClose_17 : decode k_R_lowestToClose 17 = .ok (.iconst (-1), 1) := by decide +kernel
theorem d_R_lowestToClose_18 : decode k_R_lowestToClose 18 = .ok (.if_icmp .eq 16, 3) := by decide +kernel
theorem d_R_lowestToClose_21 : decode k_R_lowestToClose 21 = .ok (.aload_n 0, 1) := by decide +kernel
theorem d_R_lowestToClose_22 : decode k_R_lowestToClose 22 = .ok (.iload_n 1, 1) := by decide +kernel
theorem d_R_lowestToClose_23 : decode k_R_lowestToClose 23 = .ok (.iconst 3, 1) := by decide +kernel
theorem d_R_lowestToClose_24 : decode k_R_lowestToClose 24 = .ok (.iload_n 2, 1) := by decide +kernel
theorem d_R_lowestToClose_25 : decode k_R_lowestToClose 25 = .ok (.invokevirtual 55, 3) := by decide +kernel
theorem d_R_lowestToClose_28 : decode k_R_lowestToClose 28 = .ok (.iconst (-1), 1) := by decide +kernel
theorem d_R_lowestToClose_29 : decode k_R_lowestToClose 29 = .ok (.if_icmp .ne 5, 3) := by decide +kernel
theorem d_R_lowestToClose_32 : decode k_R_lowestToClose 32 = .ok (.iload_n 2, 1) := by decide +kernel
theorem d_R_lowestToClose_33 : decode k_R_lowestToClose 33 = .ok (.ireturn, 1) := by decide +kernel
theorem d_R_lowestToClose_34 : decode k_R_lowestToClose 34 = .ok (.iinc 2 1, 3) := by decide +kernel
theorem d_R_lowestToClose_37 : decode k_R_lowestToClose 37 = .ok (.goto (-35), 3) := by decide +kernel
theorem d_R_lowestToClose_40 : decode k_R_lowestToClose 40 = .ok (.iconst (-1), 1) := by decide +kernel
theorem d_R_lowestToClose_41 : decode k_R_lowestToClose 41 = .ok (.ireturn, 1) := by decide +kernel
theorem d_R_brokenRule_0 : decode k_R_brokenRule 0 = .ok (.iload_n 1, 1) := by decide +kernel
theorem d_R_brokenRule_1 : decode k_R_brokenRule 1 = .ok (.aload_n 0, 1) := by decide +kernel
theorem d_R_brokenRule_2 : decode k_R_brokenRule 2 = .ok (.getfield 52, 3) := by decide +kernel
theorem d_R_brokenRule_5 : decode k_R_brokenRule 5 = .ok (.if_icmp .gt 5, 3) := by decide +kernel
theorem d_R_brokenRule_8 : decode k_R_brokenRule 8 = .ok (.iconst 1, 1) := by decide +kernel
theorem d_R_brokenRule_9 : decode k_R_brokenRule 9 = .ok (.ireturn, 1) := by decide +kernel
theorem d_R_brokenRule_10 : decode k_R_brokenRule 10 = .ok (.aload_n 0, 1) := by decide +kernel
theorem d_R_brokenRule_11 : decode k_R_brokenRule 11 = .ok (.iload_n 2, 1) := by decide +kernel
theorem d_R_brokenRule_12 : decode k_R_brokenRule 12 = .ok (.iload_n 3, 1) := by decide +kernel
theorem d_R_brokenRule_13 : decode k_R_brokenRule 13 = .ok (.iload 4, 2) := by decide +kernel
theorem d_R_brokenRule_15 : decode k_R_brokenRule 15 = .ok (.invokevirtual 59, 3) := by decide +kernel
theorem d_R_brokenRule_18 : decode k_R_brokenRule 18 = .ok (.ifCond .ne 5, 3) := by decide +kernel
theorem d_R_brokenRule_21 : decode k_R_brokenRule 21 = .ok (.iconst 2, 1) := by decide +kernel
theorem d_R_brokenRule_22 : decode k_R_brokenRule 22 = .ok (.ireturn, 1) := by decide +kernel
theorem d_R_brokenRule_23 : decode k_R_brokenRule 23 = .ok (.aload_n 0, 1) := by decide +kernel
theorem d_R_brokenRule_24 : decode k_R_brokenRule 24 = .ok (.iload_n 1, 1) := by decide +kernel
theorem d_R_brokenRule_25 : decode k_R_brokenRule 25 = .ok (.iload_n 2, 1) := by decide +kernel
theorem d_R_brokenRule_26 : decode k_R_brokenRule 26 = .ok (.iload_n 3, 1) := by decide +kernel
theorem d_R_brokenRule_27 : decode k_R_brokenRule 27 = .ok (.invokevirtual 55, 3) := by decide +kernel
theorem d_R_brokenRule_30 : decode k_R_brokenRule 30 = .ok (.istore 5, 2) := by decide +kernel
theorem d_R_brokenRule_32 : decode k_R_brokenRule 32 = .ok (.iload 5, 2) := by decide +kernel
theorem d_R_brokenRule_34 : decode k_R_brokenRule 34 = .ok (.iconst (-1), 1) := by decide +kernel
theorem d_R_brokenRule_35 : decode k_R_brokenRule 35 = .ok (.if_icmp .ne 7, 3) := by decide +kernel
theorem d_R_brokenRule_38 : decode k_R_brokenRule 38 = .ok (.iconst 0, 1) := by decide +kernel
theorem d_R_brokenRule_39 : decode k_R_brokenRule 39 = .ok (.goto 7, 3) := by decide +kernel
theorem d_R_brokenRule_42 : decode k_R_brokenRule 42 = .ok (.iconst 3, 1) := by decide +kernel
theorem d_R_brokenRule_43 : decode k_R_brokenRule 43 = .ok (.iload 5, 2) := by decide +kernel
theorem d_R_brokenRule_45 : decode k_R_brokenRule 45 = .ok (.iadd, 1) := by decide +kernel
theorem d_R_brokenRule_46 : decode k_R_brokenRule 46 = .ok (.ireturn, 1) := by decide +kernel
theorem d_R_fitsBank_0 : decode k_R_fitsBank 0 = .ok (.iload_n 1, 1) := by decide +kernel
theorem d_R_fitsBank_1 : decode k_R_fitsBank 1 = .ok (.tableswitch 80 0 4 #[35, 80, 80, 51, 67], 35) := by decide +kernel
theorem d_R_fitsBank_36 : decode k_R_fitsBank 36 = .ok (.aload_n 0, 1) := by decide +kernel
theorem d_R_fitsBank_37 : decode k_R_fitsBank 37 = .ok (.getfield 15, 3) := by decide +kernel
theorem d_R_fitsBank_40 : decode k_R_fitsBank 40 = .ok (.iload_n 2, 1) := by decide +kernel
theorem d_R_fitsBank_41 : decode k_R_fitsBank 41 = .ok (.iaload, 1) := by decide +kernel
theorem d_R_fitsBank_42 : decode k_R_fitsBank 42 = .ok (.iconst (-1), 1) := by decide +kernel
theorem d_R_fitsBank_43 : decode k_R_fitsBank 43 = .ok (.if_icmp .ne 7, 3) := by decide +kernel
theorem d_R_fitsBank_46 : decode k_R_fitsBank 46 = .ok (.iconst 1, 1) := by decide +kernel
theorem d_R_fitsBank_47 : decode k_R_fitsBank 47 = .ok (.goto 4, 3) := by decide +kernel
theorem d_R_fitsBank_50 : decode k_R_fitsBank 50 = .ok (.iconst 0, 1) := by decide +kernel
theorem d_R_fitsBank_51 : decode k_R_fitsBank 51 = .ok (.ireturn, 1) := by decide +kernel
theorem d_R_fitsBank_52 : decode k_R_fitsBank 52 = .ok (.aload_n 0, 1) := by decide +kernel
theorem d_R_fitsBank_53 : decode k_R_fitsBank 53 = .ok (.getfield 15, 3) := by decide +kernel
theorem d_R_fitsBank_56 : decode k_R_fitsBank 56 = .ok (.iload_n 2, 1) := by decide +kernel
theorem d_R_fitsBank_57 : decode k_R_fitsBank 57 = .ok (.iaload, 1) := by decide +kernel
theorem d_R_fitsBank_58 : decode k_R_fitsBank 58 = .ok (.iconst (-1), 1) := by decide +kernel
theorem d_R_fitsBank_59 : decode k_R_fitsBank 59 = .ok (.if_icmp .eq 7, 3) := by decide +kernel
theorem d_R_fitsBank_62 : decode k_R_fitsBank 62 = .ok (.iconst 1, 1) := by decide +kernel
theorem d_R_fitsBank_63 : decode k_R_fitsBank 63 = .ok (.goto 4, 3) := by decide +kernel
theorem d_R_fitsBank_66 : decode k_R_fitsBank 66 = .ok (.iconst 0, 1) := by decide +kernel
theorem d_R_fitsBank_67 : decode k_R_fitsBank 67 = .ok (.ireturn, 1) := by decide +kernel
theorem d_R_fitsBank_68 : decode k_R_fitsBank 68 = .ok (.aload_n 0, 1) := by decide +kernel
theorem d_R_fitsBank_69 : decode k_R_fitsBank 69 = .ok (.invokevirtual 63, 3) := by decide +kernel
theorem d_R_fitsBank_72 : decode k_R_fitsBank 72 = .ok (.ifCond .ne 7, 3) := by decide +kernel
theorem d_R_fitsBank_75 : decode k_R_fitsBank 75 = .ok (.iconst 1, 1) := by decide +kernel
theorem d_R_fitsBank_76 : decode k_R_fitsBank 76 = .ok (.goto 4, 3) := by decide +kernel
theorem d_R_fitsBank_79 : decode k_R_fitsBank 79 = .ok (.iconst 0, 1) := by decide +kernel
theorem d_R_fitsBank_80 : decode k_R_fitsBank 80 = .ok (.ireturn, 1) := by decide +kernel
theorem d_R_fitsBank_81 : decode k_R_fitsBank 81 = .ok (.aload_n 0, 1) := by decide +kernel
theorem d_R_fitsBank_82 : decode k_R_fitsBank 82 = .ok (.getfield 15, 3) := by decide +kernel
theorem d_R_fitsBank_85 : decode k_R_fitsBank 85 = .ok (.iload_n 2, 1) := by decide +kernel
theorem d_R_fitsBank_86 : decode k_R_fitsBank 86 = .ok (.iaload, 1) := by decide +kernel
theorem d_R_fitsBank_87 : decode k_R_fitsBank 87 = .ok (.iload_n 3, 1) := by decide +kernel
theorem d_R_fitsBank_88 : decode k_R_fitsBank 88 = .ok (.if_icmp .ne 7, 3) := by decide +kernel
theorem d_R_fitsBank_91 : decode k_R_fitsBank 91 = .ok (.iconst 1, 1) := by decide +kernel
theorem d_R_fitsBank_92 : decode k_R_fitsBank 92 = .ok (.goto 4, 3) := by decide +kernel
theorem d_R_fitsBank_95 : decode k_R_fitsBank 95 = .ok (.iconst 0, 1) := by decide +kernel
theorem d_R_fitsBank_96 : decode k_R_fitsBank 96 = .ok (.ireturn, 1) := by decide +kernel
theorem d_R_brokenTime_0 : decode k_R_brokenTime 0 = .ok (.iconst 0, 1) := by decide +kernel
theorem d_R_brokenTime_1 : decode k_R_brokenTime 1 = .ok (.istore 4, 2) := by decide +kernel
theorem d_R_brokenTime_3 : decode k_R_brokenTime 3 = .ok (.iload 4, 2) := by decide +kernel
theorem d_R_brokenTime_5 : decode k_R_brokenTime 5 = .ok (.aload_n 0, 1) := by decide +kernel
theorem d_R_brokenTime_6 : decode k_R_brokenTime 6 = .ok (.getfield 9, 3) := by decide +kernel
theorem d_R_brokenTime_9 : decode k_R_brokenTime 9 = .ok (.arraylength, 1) := by decide +kernel
theorem d_R_brokenTime_10 : decode k_R_brokenTime 10 = .ok (.if_icmp .ge 42, 3) := by decide +kernel
theorem d_R_brokenTime_13 : decode k_R_brokenTime 13 = .ok (.aload_n 0, 1) := by decide +kernel
theorem d_R_brokenTime_14 : decode k_R_brokenTime 14 = .ok (.iload 4, 2) := by decide +kernel
theorem d_R_brokenTime_16 : decode k_R_brokenTime 16 = .ok (.iload_n 2, 1) := by decide +kernel
theorem d_R_brokenTime_17 : decode k_R_brokenTime 17 = .ok (.iload_n 3, 1) := by decide +kernel
theorem d_R_brokenTime_18 : decode k_R_brokenTime 18 = .ok (.invokevirtual 67, 3) := by decide +kernel
theorem d_R_brokenTime_21 : decode k_R_brokenTime 21 = .ok (.istore 5, 2) := by decide +kernel
theorem d_R_brokenTime_23 : decode k_R_brokenTime 23 = .ok (.iload 5, 2) := by decide +kernel
theorem d_R_brokenTime_25 : decode k_R_brokenTime 25 = .ok (.iconst (-1), 1) := by decide +kernel
theorem d_R_brokenTime_26 : decode k_R_brokenTime 26 = .ok (.if_icmp .eq 20, 3) := by decide +kernel
theorem d_R_brokenTime_29 : decode k_R_brokenTime 29 = .ok (.iload_n 1, 1) := by decide +kernel
theorem d_R_brokenTime_30 : decode k_R_brokenTime 30 = .ok (.iload 5, 2) := by decide +kernel
theorem d_R_brokenTime_32 : decode k_R_brokenTime 32 = .ok (.isub, 1) := by decide +kernel
theorem d_R_brokenTime_33 : decode k_R_brokenTime 33 = .ok (.aload_n 0, 1) := by decide +kernel
theorem d_R_brokenTime_34 : decode k_R_brokenTime 34 = .ok (.getfield 9, 3) := by decide +kernel
theorem d_R_brokenTime_37 : decode k_R_brokenTime 37 = .ok (.iload 4, 2) := by decide +kernel
theorem d_R_brokenTime_39 : decode k_R_brokenTime 39 = .ok (.iaload, 1) := by decide +kernel
theorem d_R_brokenTime_40 : decode k_R_brokenTime 40 = .ok (.if_icmp .ge 6, 3) := by decide +kernel
theorem d_R_brokenTime_43 : decode k_R_brokenTime 43 = .ok (.iload 4, 2) := by decide +kernel
theorem d_R_brokenTime_45 : decode k_R_brokenTime 45 = .ok (.ireturn, 1) := by decide +kernel
theorem d_R_brokenTime_46 : decode k_R_brokenTime 46 = .ok (.iinc 4 1, 3) := by decide +kernel
theorem d_R_brokenTime_49 : decode k_R_brokenTime 49 = .ok (.goto (-46), 3) := by decide +kernel
theorem d_R_brokenTime_52 : decode k_R_brokenTime 52 = .ok (.iconst (-1), 1) := by decide +kernel
theorem d_R_brokenTime_53 : decode k_R_brokenTime 53 = .ok (.ireturn, 1) := by decide +kernel
theorem d_R_startOf_0 : decode k_R_startOf 0 = .ok (.iload_n 2, 1) := by decide +kernel
theorem d_R_startOf_1 : decode k_R_startOf 1 = .ok (.iconst 1, 1) := by decide +kernel
theorem d_R_startOf_2 : decode k_R_startOf 2 = .ok (.if_icmp .eq 8, 3) := by decide +kernel
theorem d_R_startOf_5 : decode k_R_startOf 5 = .ok (.iload_n 2, 1) := by decide +kernel
theorem d_R_startOf_6 : decode k_R_startOf 6 = .ok (.iconst 2, 1) := by decide +kernel
theorem d_R_startOf_7 : decode k_R_startOf 7 = .ok (.if_icmp .ne 7, 3) := by decide +kernel
theorem d_R_startOf_10 : decode k_R_startOf 10 = .ok (.iconst 1, 1) := by decide +kernel
theorem d_R_startOf_11 : decode k_R_startOf 11 = .ok (.goto 4, 3) := by decide +kernel
theorem d_R_startOf_14 : decode k_R_startOf 14 = .ok (.iconst 0, 1) := by decide +kernel
theorem d_R_startOf_15 : decode k_R_startOf 15 = .ok (.istore 4, 2) := by decide +kernel
theorem d_R_startOf_17 : decode k_R_startOf 17 = .ok (.iload_n 1, 1) := by decide +kernel
theorem d_R_startOf_18 : decode k_R_startOf 18 = .ok (.tableswitch 190 0 8 #[50, 66, 81, 97, 125, 139, 155, 170, 175], 50) := by decide +kernel
theorem d_R_startOf_68 : decode k_R_startOf 68 = .ok (.iload 4, 2) := by decide +kernel
theorem d_R_startOf_70 : decode k_R_startOf 70 = .ok (.ifCond .eq 12, 3) := by decide +kernel
theorem d_R_startOf_73 : decode k_R_startOf 73 = .ok (.aload_n 0, 1) := by decide +kernel
theorem d_R_startOf_74 : decode k_R_startOf 74 = .ok (.getfield 18, 3) := by decide +kernel
theorem d_R_startOf_77 : decode k_R_startOf 77 = .ok (.iload_n 3, 1) := by decide +kernel
theorem d_R_startOf_78 : decode k_R_startOf 78 = .ok (.iaload, 1) := by decide +kernel
theorem d_R_startOf_79 : decode k_R_startOf 79 = .ok (.goto 4, 3) := by decide +kernel
theorem d_R_startOf_82 : decode k_R_startOf 82 = .ok (.iconst (-1), 1) := by decide +kernel
theorem d_R_startOf_83 : decode k_R_startOf 83 = .ok (.ireturn, 1) := by decide +kernel
theorem d_R_startOf_84 : decode k_R_startOf 84 = .ok (.iload_n 2, 1) := by decide +kernel
theorem d_R_startOf_85 : decode k_R_startOf 85 = .ok (.ifCond .ne 12, 3) := by decide +kernel
theorem d_R_startOf_88 : decode k_R_startOf 88 = .ok (.aload_n 0, 1) := by decide +kernel
theorem d_R_startOf_89 : decode k_R_startOf 89 = .ok (.getfield 27, 3) := by decide +kernel
theorem d_R_startOf_92 : decode k_R_startOf 92 = .ok (.iload_n 3, 1) := by decide +kernel
theorem d_R_startOf_93 : decode k_R_startOf 93 = .ok (.iaload, 1) := by decide +kernel
theorem d_R_startOf_94 : decode k_R_startOf 94 = .ok (.goto 4, 3) := by decide +kernel
theorem d_R_startOf_97 : decode k_R_startOf 97 = .ok (.iconst (-1), 1) := by decide +kernel
theorem d_R_startOf_98 : decode k_R_startOf 98 = .ok (.ireturn, 1) := by decide +kernel
theorem d_R_startOf_99 : decode k_R_startOf 99 = .ok (.iload_n 2, 1) := by decide +kernel
theorem d_R_startOf_100 : decode k_R_startOf 100 = .ok (.iconst 3, 1) := by decide +kernel
theorem d_R_startOf_101 : decode k_R_startOf 101 = .ok (.if_icmp .ne 12, 3) := by decide +kernel
theorem d_R_startOf_104 : decode k_R_startOf 104 = .ok (.aload_n 0, 1) := by decide +kernel
theorem d_R_startOf_105 : decode k_R_startOf 105 = .ok (.getfield 18, 3) := by decide +kernel
theorem d_R_startOf_108 : decode k_R_startOf 108 = .ok (.iload_n 3, 1) := by decide +kernel
theorem d_R_startOf_109 : decode k_R_startOf 109 = .ok (.iaload, 1) := by decide +kernel
theorem d_R_startOf_110 : decode k_R_startOf 110 = .ok (.goto 4, 3) := by decide +kernel
theorem d_R_startOf_113 : decode k_R_startOf 113 = .ok (.iconst (-1), 1) := by decide +kernel
theorem d_R_startOf_114 : decode k_R_startOf 114 = .ok (.ireturn, 1) := by decide +kernel
theorem d_R_startOf_115 : decode k_R_startOf 115 = .ok (.iload 4, 2) := by decide +kernel
theorem d_R_startOf_117 : decode k_R_startOf 117 = .ok (.ifCond .eq 10, 3) := by decide +kernel
theorem d_R_startOf_120 : decode k_R_startOf 120 = .ok (.aload_n 0, 1) := by decide +kernel
theorem d_R_startOf_121 : decode k_R_startOf 121 = .ok (.getfield 42, 3) := by decide +kernel
theorem d_R_startOf_124 : decode k_R_startOf 124 = .ok (.goto 18, 3) := by decide +kernel
theorem d_R_startOf_127 : decode k_R_startOf 127 = .ok (.iload_n 2, 1) := by decide +kernel
theorem d_R_startOf_128 : decode k_R_startOf 128 = .ok (.iconst 3, 1) := by decide +kernel
theorem d_R_startOf_129 : decode k_R_startOf 129 = .ok (.if_icmp .ne 12, 3) := by decide +kernel
theorem d_R_startOf_132 : decode k_R_startOf 132 = .ok (.aload_n 0, 1) := by decide +kernel
theorem d_R_startOf_133 : decode k_R_startOf 133 = .ok (.getfield 21, 3) := by decide +kernel
theorem d_R_startOf_136 : decode k_R_startOf 136 = .ok (.iload_n 3, 1) := by decide +kernel
theorem d_R_startOf_137 : decode k_R_startOf 137 = .ok (.iaload, 1) := by decide +kernel
theorem d_R_startOf_138 : decode k_R_startOf 138 = .ok (.goto 4, 3) := by decide +kernel
theorem d_R_startOf_141 : decode k_R_startOf 141 = .ok (.iconst (-1), 1) := by decide +kernel
theorem d_R_startOf_142 : decode k_R_startOf 142 = .ok (.ireturn, 1) := by decide +kernel
theorem d_R_startOf_143 : decode k_R_startOf 143 = .ok (.iload_n 2, 1) := by decide +kernel
theorem d_R_startOf_144 : decode k_R_startOf 144 = .ok (.iconst 1, 1) := by decide +kernel
theorem d_R_startOf_145 : decode k_R_startOf 145 = .ok (.if_icmp .ne 10, 3) := by decide +kernel
theorem d_R_startOf_148 : decode k_R_startOf 148 = .ok (.aload_n 0, 1) := by decide +kernel
theorem d_R_startOf_149 : decode k_R_startOf 149 = .ok (.getfield 46, 3) := by decide +kernel
theorem d_R_startOf_152 : decode k_R_startOf 152 = .ok (.goto 4, 3) := by decide +kernel
theorem d_R_startOf_155 : decode k_R_startOf 155 = .ok (.iconst (-1), 1) := by decide +kernel
theorem d_R_startOf_156 : decode k_R_startOf 156 = .ok (.ireturn, 1) := by decide +kernel
theorem d_R_startOf_157 : decode k_R_startOf 157 = .ok (.iload_n 2, 1) := by decide +kernel
theorem d_R_startOf_158 : decode k_R_startOf 158 = .ok (.iconst 3, 1) := by decide +kernel
theorem d_R_startOf_159 : decode k_R_startOf 159 = .ok (.if_icmp .ne 12, 3) := by decide +kernel
theorem d_R_startOf_162 : decode k_R_startOf 162 = .ok (.aload_n 0, 1) := by decide +kernel
theorem d_R_startOf_163 : decode k_R_startOf 163 = .ok (.getfield 24, 3) := by decide +kernel
theorem d_R_startOf_166 : decode k_R_startOf 166 = .ok (.iload_n 3, 1) := by decide +kernel
theorem d_R_startOf_167 : decode k_R_startOf 167 = .ok (.iaload, 1) := by decide +kernel
theorem d_R_startOf_168 : decode k_R_startOf 168 = .ok (.goto 4, 3) := by decide +kernel
theorem d_R_startOf_171 : decode k_R_startOf 171 = .ok (.iconst (-1), 1) := by decide +kernel
theorem d_R_startOf_172 : decode k_R_startOf 172 = .ok (.ireturn, 1) := by decide +kernel
theorem d_R_startOf_173 : decode k_R_startOf 173 = .ok (.iload_n 2, 1) := by decide +kernel
theorem d_R_startOf_174 : decode k_R_startOf 174 = .ok (.ifCond .ne 12, 3) := by decide +kernel
theorem d_R_startOf_177 : decode k_R_startOf 177 = .ok (.aload_n 0, 1) := by decide +kernel
theorem d_R_startOf_178 : decode k_R_startOf 178 = .ok (.getfield 30, 3) := by decide +kernel
theorem d_R_startOf_181 : decode k_R_startOf 181 = .ok (.iconst 0, 1) := by decide +kernel
theorem d_R_startOf_182 : decode k_R_startOf 182 = .ok (.iaload, 1) := by decide +kernel
theorem d_R_startOf_183 : decode k_R_startOf 183 = .ok (.goto 4, 3) := by decide +kernel
theorem d_R_startOf_186 : decode k_R_startOf 186 = .ok (.iconst (-1), 1) := by decide +kernel
theorem d_R_startOf_187 : decode k_R_startOf 187 = .ok (.ireturn, 1) := by decide +kernel
theorem d_R_startOf_188 : decode k_R_startOf 188 = .ok (.aload_n 0, 1) := by decide +kernel
theorem d_R_startOf_189 : decode k_R_startOf 189 = .ok (.getfield 49, 3) := by decide +kernel
theorem d_R_startOf_192 : decode k_R_startOf 192 = .ok (.ireturn, 1) := by decide +kernel
theorem d_R_startOf_193 : decode k_R_startOf 193 = .ok (.iload_n 2, 1) := by decide +kernel
theorem d_R_startOf_194 : decode k_R_startOf 194 = .ok (.ifCond .ne 12, 3) := by decide +kernel
theorem d_R_startOf_197 : decode k_R_startOf 197 = .ok (.aload_n 0, 1) := by decide +kernel
theorem d_R_startOf_198 : decode k_R_startOf 198 = .ok (.getfield 30, 3) := by decide +kernel
theorem d_R_startOf_201 : decode k_R_startOf 201 = .ok (.iconst 3, 1) := by decide +kernel
theorem d_R_startOf_202 : decode k_R_startOf 202 = .ok (.iaload, 1) := by decide +kernel
theorem d_R_startOf_203 : decode k_R_startOf 203 = .ok (.goto 4, 3) := by decide +kernel
theorem d_R_startOf_206 : decode k_R_startOf 206 = .ok (.iconst (-1), 1) := by decide +kernel
theorem d_R_startOf_207 : decode k_R_startOf 207 = .ok (.ireturn, 1) := by decide +kernel
theorem d_R_startOf_208 : decode k_R_startOf 208 = .ok (.iconst (-1), 1) := by decide +kernel
theorem d_R_startOf_209 : decode k_R_startOf 209 = .ok (.ireturn, 1) := by decide +kernel
theorem d_R_take_0 : decode k_R_take 0 = .ok (.aload_n 0, 1) := by decide +kernel
theorem d_R_take_1 : decode k_R_take 1 = .ok (.iload_n 1, 1) := by decide +kernel
theorem d_R_take_2 : decode k_R_take 2 = .ok (.putfield 52, 3) := by decide +kernel
theorem d_R_take_5 : decode k_R_take 5 = .ok (.iload_n 2, 1) := by decide +kernel
theorem d_R_take_6 : decode k_R_take 6 = .ok (.tableswitch 137 0 3 #[30, 85, 100, 120], 30) := by decide +kernel
theorem d_R_take_36 : decode k_R_take 36 = .ok (.aload_n 0, 1) := by decide +kernel
theorem d_R_take_37 : decode k_R_take 37 = .ok (.getfield 15, 3) := by decide +kernel
theorem d_R_take_40 : decode k_R_take 40 = .ok (.iload_n 3, 1) := by decide +kernel
theorem d_R_take_41 : decode k_R_take 41 = .ok (.iload 4, 2) := by decide +kernel
theorem d_R_take_43 : decode k_R_take 43 = .ok (.iastore, 1) := by decide +kernel
theorem d_R_take_44 : decode k_R_take 44 = .ok (.aload_n 0, 1) := by decide +kernel
theorem d_R_take_45 : decode k_R_take 45 = .ok (.getfield 18, 3) := by decide +kernel
theorem d_R_take_48 : decode k_R_take 48 = .ok (.iload_n 3, 1) := by decide +kernel
theorem d_R_take_49 : decode k_R_take 49 = .ok (.iload_n 1, 1) := by decide +kernel
theorem d_R_take_50 : decode k_R_take 50 = .ok (.iastore, 1) := by decide +kernel
theorem d_R_take_51 : decode k_R_take 51 = .ok (.iconst 3, 1) := by decide +kernel
theorem d_R_take_52 : decode k_R_take 52 = .ok (.istore 5, 2) := by decide +kernel
theorem d_R_take_54 : decode k_R_take 54 = .ok (.iload 5, 2) := by decide +kernel
theorem d_R_take_56 : decode k_R_take 56 = .ok (.ifCond .le 25, 3) := by decide +kernel
theorem d_R_take_59 : decode k_R_take 59 = .ok (.aload_n 0, 1) := by decide +kernel
theorem d_R_take_60 : decode k_R_take 60 = .ok (.getfield 30, 3) := by decide +kernel
theorem d_R_take_63 : decode k_R_take 63 = .ok (.iload 5, 2) := by decide +kernel
theorem d_R_take_65 : decode k_R_take 65 = .ok (.aload_n 0, 1) := by decide +kernel
theorem d_R_take_66 : decode k_R_take 66 = .ok (.getfield 30, 3) := by decide +kernel
theorem d_R_take_69 : decode k_R_take 69 = .ok (.iload 5, 2) := by decide +kernel
theorem d_R_take_71 : decode k_R_take 71 = .ok (.iconst 1, 1) := by decide +kernel
theorem d_R_take_72 : decode k_R_take 72 = .ok (.isub, 1) := by decide +kernel
theorem d_R_take_73 : decode k_R_take 73 = .ok (.iaload, 1) := by decide +kernel
theorem d_R_take_74 : decode k_R_take 74 = .ok (.iastore, 1) := by decide +kernel
theorem d_R_take_75 : decode k_R_take 75 = .ok (.iinc 5 (-1), 3) := by decide +kernel
theorem d_R_take_78 : decode k_R_take 78 = .ok (.goto (-24), 3) := by decide +kernel
theorem d_R_take_81 : decode k_R_take 81 = .ok (.aload_n 0, 1) := by decide +kernel
theorem d_R_take_82 : decode k_R_take 82 = .ok (.getfield 30, 3) := by decide +kernel
theorem d_R_take_85 : decode k_R_take 85 = .ok (.iconst 0, 1) := by decide +kernel
theorem d_R_take_86 : decode k_R_take 86 = .ok (.iload_n 1, 1) := by decide +kernel
theorem d_R_take_87 : decode k_R_take 87 = .ok (.iastore, 1) := by decide +kernel
theorem d_R_take_88 : decode k_R_take 88 = .ok (.goto 60, 3) := by decide +kernel
theorem d_R_take_91 : decode k_R_take 91 = .ok (.aload_n 0, 1) := by decide +kernel
theorem d_R_take_92 : decode k_R_take 92 = .ok (.getfield 21, 3) := by decide +kernel
theorem d_R_take_95 : decode k_R_take 95 = .ok (.iload_n 3, 1) := by decide +kernel
theorem d_R_take_96 : decode k_R_take 96 = .ok (.iload_n 1, 1) := by decide +kernel
theorem d_R_take_97 : decode k_R_take 97 = .ok (.iastore, 1) := by decide +kernel
theorem d_R_take_98 : decode k_R_take 98 = .ok (.aload_n 0, 1) := by decide +kernel
theorem d_R_take_99 : decode k_R_take 99 = .ok (.iload_n 1, 1) := by decide +kernel
theorem d_R_take_100 : decode k_R_take 100 = .ok (.putfield 42, 3) := by decide +kernel
theorem d_R_take_103 : decode k_R_take 103 = .ok (.goto 45, 3) := by decide +kernel
theorem d_R_take_106 : decode k_R_take 106 = .ok (.aload_n 0, 1) := by decide +kernel
theorem d_R_take_107 : decode k_R_take 107 = .ok (.getfield 24, 3) := by decide +kernel
theorem d_R_take_110 : decode k_R_take 110 = .ok (.iload_n 3, 1) := by decide +kernel
theorem d_R_take_111 : decode k_R_take 111 = .ok (.iload_n 1, 1) := by decide +kernel
theorem d_R_take_112 : decode k_R_take 112 = .ok (.iastore, 1) := by decide +kernel
theorem d_R_take_113 : decode k_R_take 113 = .ok (.aload_n 0, 1) := by decide +kernel
theorem d_R_take_114 : decode k_R_take 114 = .ok (.iload_n 1, 1) := by decide +kernel
theorem d_R_take_115 : decode k_R_take 115 = .ok (.putfield 42, 3) := by decide +kernel
theorem d_R_take_118 : decode k_R_take 118 = .ok (.aload_n 0, 1) := by decide +kernel
theorem d_R_take_119 : decode k_R_take 119 = .ok (.iload_n 1, 1) := by decide +kernel
theorem d_R_take_120 : decode k_R_take 120 = .ok (.putfield 46, 3) := by decide +kernel
theorem d_R_take_123 : decode k_R_take 123 = .ok (.goto 25, 3) := by decide +kernel
theorem d_R_take_126 : decode k_R_take 126 = .ok (.aload_n 0, 1) := by decide +kernel
theorem d_R_take_127 : decode k_R_take 127 = .ok (.getfield 15, 3) := by decide +kernel
theorem d_R_take_130 : decode k_R_take 130 = .ok (.iload_n 3, 1) := by decide +kernel
theorem d_R_take_131 : decode k_R_take 131 = .ok (.iconst (-1), 1) := by decide +kernel
theorem d_R_take_132 : decode k_R_take 132 = .ok (.iastore, 1) := by decide +kernel
theorem d_R_take_133 : decode k_R_take 133 = .ok (.aload_n 0, 1) := by decide +kernel
theorem d_R_take_134 : decode k_R_take 134 = .ok (.getfield 27, 3) := by decide +kernel
theorem d_R_take_137 : decode k_R_take 137 = .ok (.iload_n 3, 1) := by decide +kernel
theorem d_R_take_138 : decode k_R_take 138 = .ok (.iload_n 1, 1) := by decide +kernel
theorem d_R_take_139 : decode k_R_take 139 = .ok (.iastore, 1) := by decide +kernel
theorem d_R_take_140 : decode k_R_take 140 = .ok (.goto 8, 3) := by decide +kernel
theorem d_R_take_143 : decode k_R_take 143 = .ok (.aload_n 0, 1) := by decide +kernel
theorem d_R_take_144 : decode k_R_take 144 = .ok (.iload_n 1, 1) := by decide +kernel
theorem d_R_take_145 : decode k_R_take 145 = .ok (.putfield 49, 3) := by decide +kernel
theorem d_R_take_148 : decode k_R_take 148 = .ok (.return_, 1) := by decide +kernel
