theorem d_D_byReads_0 : decode k_D_byReads 0 = .ok (.iconst 0, 1) := by decide +kernel
theorem d_D_byReads_1 : decode k_D_byReads 1 = .ok (.istore_n 2, 1) := by decide +kernel
theorem d_D_byReads_2 : decode k_D_byReads 2 = .ok (.iconst 0, 1) := by decide +kernel
theorem d_D_byReads_3 : decode k_D_byReads 3 = .ok (.istore_n 3, 1) := by decide +kernel
theorem d_D_byReads_4 : decode k_D_byReads 4 = .ok (.iconst 0, 1) := by decide +kernel
theorem d_D_byReads_5 : decode k_D_byReads 5 = .ok (.istore 4, 2) := by decide +kernel
theorem d_D_byReads_7 : decode k_D_byReads 7 = .ok (.iload 4, 2) := by decide +kernel
theorem d_D_byReads_9 : decode k_D_byReads 9 = .ok (.aload_n 0, 1) := by decide +kernel
theorem d_D_byReads_10 : decode k_D_byReads 10 = .ok (.getfield 130, 3) := by decide +kernel
theorem d_D_byReads_13 : decode k_D_byReads 13 = .ok (.if_icmp .ge 47, 3) := by decide +kernel
theorem d_D_byReads_16 : decode k_D_byReads 16 = .ok (.iload_n 2, 1) := by decide +kernel
theorem d_D_byReads_17 : decode k_D_byReads 17 = .ok (.aload_n 0, 1) := by decide +kernel
theorem d_D_byReads_18 : decode k_D_byReads 18 = .ok (.iload 4, 2) := by decide +kernel
theorem d_D_byReads_20 : decode k_D_byReads 20 = .ok (.iload_n 1, 1) := by decide +kernel
theorem d_D_byReads_21 : decode k_D_byReads 21 = .ok (.iconst 1, 1) := by decide +kernel
theorem d_D_byReads_22 : decode k_D_byReads 22 = .ok (.invokevirtual 159, 3) := by decide +kernel
theorem d_D_byReads_25 : decode k_D_byReads 25 = .ok (.ifCond .eq 7, 3) := by decide +kernel
theorem d_D_byReads_28 : decode k_D_byReads 28 = .ok (.iconst 1, 1) := by decide +kernel
theorem d_D_byReads_29 : decode k_D_byReads 29 = .ok (.goto 4, 3) := by decide +kernel
theorem d_D_byReads_32 : decode k_D_byReads 32 = .ok (.iconst 0, 1) := by decide +kernel
theorem d_D_byReads_33 : decode k_D_byReads 33 = .ok (.iadd, 1) := by decide +kernel
theorem d_D_byReads_34 : decode k_D_byReads 34 = .ok (.istore_n 2, 1) := by decide +kernel
theorem d_D_byReads_35 : decode k_D_byReads 35 = .ok (.iload_n 3, 1) := by decide +kernel
theorem d_D_byReads_36 : decode k_D_byReads 36 = .ok (.aload_n 0, 1) := by decide +kernel
theorem d_D_byReads_37 : decode k_D_byReads 37 = .ok (.iload 4, 2) := by decide +kernel
theorem d_D_byReads_39 : decode k_D_byReads 39 = .ok (.iload_n 1, 1) := by decide +kernel
theorem d_D_byReads_40 : decode k_D_byReads 40 = .ok (.iconst 2, 1) := by decide +kernel
theorem d_D_byReads_41 : decode k_D_byReads 41 = .ok (.invokevirtual 159, 3) := by decide +kernel
theorem d_D_byReads_44 : decode k_D_byReads 44 = .ok (.ifCond .eq 7, 3) := by decide +kernel
theorem d_D_byReads_47 : decode k_D_byReads 47 = .ok (.iconst 1, 1) := by decide +kernel
theorem d_D_byReads_48 : decode k_D_byReads 48 = .ok (.goto 4, 3) := by decide +kernel
theorem d_D_byReads_51 : decode k_D_byReads 51 = .ok (.iconst 0, 1) := by decide +kernel
theorem d_D_byReads_52 : decode k_D_byReads 52 = .ok (.iadd, 1) := by decide +kernel
theorem d_D_byReads_53 : decode k_D_byReads 53 = .ok (.istore_n 3, 1) := by decide +kernel
theorem d_D_byReads_54 : decode k_D_byReads 54 = .ok (.iinc 4 1, 3) := by decide +kernel
theorem d_D_byReads_57 : decode k_D_byReads 57 = .ok (.goto (-50), 3) := by decide +kernel
theorem d_D_byReads_60 : decode k_D_byReads 60 = .ok (.aload_n 0, 1) := by decide +kernel
theorem d_D_byReads_61 : decode k_D_byReads 61 = .ok (.iload_n 1, 1) := by decide +kernel
theorem d_D_byReads_62 : decode k_D_byReads 62 = .ok (.iload_n 2, 1) := by decide +kernel
theorem d_D_byReads_63 : decode k_D_byReads 63 = .ok (.ifCond .le 12, 3) := by decide +kernel
theorem d_D_byReads_66 : decode k_D_byReads 66 = .ok (.iload_n 3, 1) := by decide +kernel
theorem d_D_byReads_67 : decode k_D_byReads 67 = .ok (.iconst 5, 1) := by decide +kernel
theorem d_D_byReads_68 : decode k_D_byReads 68 = .ok (.if_icmp .ge 7, 3) := by decide +kernel
theorem d_D_byReads_71 : decode k_D_byReads 71 = .ok (.iconst 1, 1) := by decide +kernel
theorem d_D_byReads_72 : decode k_D_byReads 72 = .ok (.goto 4, 3) := by decide +kernel
theorem d_D_byReads_75 : decode k_D_byReads 75 = .ok (.iconst 2, 1) := by decide +kernel
theorem d_D_byReads_76 : decode k_D_byReads 76 = .ok (.invokevirtual 168, 3) := by decide +kernel
theorem d_D_byReads_79 : decode k_D_byReads 79 = .ok (.ireturn, 1) := by decide +kernel
theorem d_D_byTurns_0 : decode k_D_byTurns 0 = .ok (.iconst 1, 1) := by decide +kernel
theorem d_D_byTurns_1 : decode k_D_byTurns 1 = .ok (.istore_n 2, 1) := by decide +kernel
theorem d_D_byTurns_2 : decode k_D_byTurns 2 = .ok (.iload_n 2, 1) := by decide +kernel
theorem d_D_byTurns_3 : decode k_D_byTurns 3 = .ok (.aload_n 0, 1) := by decide +kernel
theorem d_D_byTurns_4 : decode k_D_byTurns 4 = .ok (.getfield 87, 3) := by decide +kernel
theorem d_D_byTurns_7 : decode k_D_byTurns 7 = .ok (.if_icmp .gt 87, 3) := by decide +kernel
theorem d_D_byTurns_10 : decode k_D_byTurns 10 = .ok (.aload_n 0, 1) := by decide +kernel
theorem d_D_byTurns_11 : decode k_D_byTurns 11 = .ok (.getfield 47, 3) := by decide +kernel
theorem d_D_byTurns_14 : decode k_D_byTurns 14 = .ok (.iload_n 1, 1) := by decide +kernel
theorem d_D_byTurns_15 : decode k_D_byTurns 15 = .ok (.iaload, 1) := by decide +kernel
theorem d_D_byTurns_16 : decode k_D_byTurns 16 = .ok (.iload_n 2, 1) := by decide +kernel
theorem d_D_byTurns_17 : decode k_D_byTurns 17 = .ok (.iadd, 1) := by decide +kernel
theorem d_D_byTurns_18 : decode k_D_byTurns 18 = .ok (.aload_n 0, 1) := by decide +kernel
theorem d_D_byTurns_19 : decode k_D_byTurns 19 = .ok (.getfield 87, 3) := by decide +kernel
theorem d_D_byTurns_22 : decode k_D_byTurns 22 = .ok (.irem, 1) := by decide +kernel
theorem d_D_byTurns_23 : decode k_D_byTurns 23 = .ok (.istore_n 3, 1) := by decide +kernel
theorem d_D_byTurns_24 : decode k_D_byTurns 24 = .ok (.iconst 0, 1) := by decide +kernel
theorem d_D_byTurns_25 : decode k_D_byTurns 25 = .ok (.istore 4, 2) := by decide +kernel
theorem d_D_byTurns_27 : decode k_D_byTurns 27 = .ok (.iload 4, 2) := by decide +kernel
theorem d_D_byTurns_29 : decode k_D_byTurns 29 = .ok (.aload_n 0, 1) := by decide +kernel
theorem d_D_byTurns_30 : decode k_D_byTurns 30 = .ok (.getfield 130, 3) := by decide +kernel
theorem d_D_byTurns_33 : decode k_D_byTurns 33 = .ok (.if_icmp .ge 34, 3) := by decide +kernel
theorem d_D_byTurns_36 : decode k_D_byTurns 36 = .ok (.aload_n 0, 1) := by decide +kernel
theorem d_D_byTurns_37 : decode k_D_byTurns 37 = .ok (.iload 4, 2) := by decide +kernel
theorem d_D_byTurns_39 : decode k_D_byTurns 39 = .ok (.iload_n 1, 1) := by decide +kernel
theorem d_D_byTurns_40 : decode k_D_byTurns 40 = .ok (.invokevirtual 155, 3) := by decide +kernel
theorem d_D_byTurns_43 : decode k_D_byTurns 43 = .ok (.ifCond .eq 18, 3) := by decide +kernel
theorem d_D_byTurns_46 : decode k_D_byTurns 46 = .ok (.aload_n 0, 1) := by decide +kernel
theorem d_D_byTurns_47 : decode k_D_byTurns 47 = .ok (.aload_n 0, 1) := by decide +kernel
theorem d_D_byTurns_48 : decode k_D_byTurns 48 = .ok (.getfield 50, 3) := by decide +kernel
theorem d_D_byTurns_51 : decode k_D_byTurns 51 = .ok (.iload 4, 2) := by decide +kernel
theorem d_D_byTurns_53 : decode k_D_byTurns 53 = .ok (.iaload, 1) := by decide +kernel
theorem d_D_byTurns_54 : decode k_D_byTurns 54 = .ok (.invokevirtual 117, 3) := by decide +kernel
theorem d_D_byTurns_57 : decode k_D_byTurns 57 = .ok (.iload_n 3, 1) := by decide +kernel
theorem d_D_byTurns_58 : decode k_D_byTurns 58 = .ok (.if_icmp .eq 9, 3) := by decide +kernel
theorem d_D_byTurns_61 : decode k_D_byTurns 61 = .ok (.iinc 4 1, 3) := by decide +kernel
theorem d_D_byTurns_64 : decode k_D_byTurns 64 = .ok (.goto (-37), 3) := by decide +kernel
theorem d_D_byTurns_67 : decode k_D_byTurns 67 = .ok (.iload 4, 2) := by decide +kernel
theorem d_D_byTurns_69 : decode k_D_byTurns 69 = .ok (.aload_n 0, 1) := by decide +kernel
theorem d_D_byTurns_70 : decode k_D_byTurns 70 = .ok (.getfield 130, 3) := by decide +kernel
theorem d_D_byTurns_73 : decode k_D_byTurns 73 = .ok (.if_icmp .ge 15, 3) := by decide +kernel
theorem d_D_byTurns_76 : decode k_D_byTurns 76 = .ok (.aload_n 0, 1) := by decide +kernel
theorem d_D_byTurns_77 : decode k_D_byTurns 77 = .ok (.iload 4, 2) := by decide +kernel
theorem d_D_byTurns_79 : decode k_D_byTurns 79 = .ok (.invokevirtual 162, 3) := by decide +kernel
theorem d_D_byTurns_82 : decode k_D_byTurns 82 = .ok (.ifCond .eq 6, 3) := by decide +kernel
theorem d_D_byTurns_85 : decode k_D_byTurns 85 = .ok (.iload 4, 2) := by decide +kernel
theorem d_D_byTurns_87 : decode k_D_byTurns 87 = .ok (.ireturn, 1) := by decide +kernel
theorem d_D_byTurns_88 : decode k_D_byTurns 88 = .ok (.iinc 2 1, 3) := by decide +kernel
theorem d_D_byTurns_91 : decode k_D_byTurns 91 = .ok (.goto (-89), 3) := by decide +kernel
theorem d_D_byTurns_94 : decode k_D_byTurns 94 = .ok (.iconst (-1), 1) := by decide +kernel
theorem d_D_byTurns_95 : decode k_D_byTurns 95 = .ok (.ireturn, 1) := by decide +kernel
theorem d_D_named_0 : decode k_D_named 0 = .ok (.aload_n 0, 1) := by decide +kernel
theorem d_D_named_1 : decode k_D_named 1 = .ok (.getfield 90, 3) := by decide +kernel
theorem d_D_named_4 : decode k_D_named 4 = .ok (.iconst 1, 1) := by decide +kernel
theorem d_D_named_5 : decode k_D_named 5 = .ok (.if_icmp .ne 10, 3) := by decide +kernel
theorem d_D_named_8 : decode k_D_named 8 = .ok (.aload_n 0, 1) := by decide +kernel
theorem d_D_named_9 : decode k_D_named 9 = .ok (.iload_n 1, 1) := by decide +kernel
theorem d_D_named_10 : decode k_D_named 10 = .ok (.iconst 0, 1) := by decide +kernel
theorem d_D_named_11 : decode k_D_named 11 = .ok (.invokevirtual 168, 3) := by decide +kernel
theorem d_D_named_14 : decode k_D_named 14 = .ok (.ireturn, 1) := by decide +kernel
theorem d_D_named_15 : decode k_D_named 15 = .ok (.aload_n 0, 1) := by decide +kernel
theorem d_D_named_16 : decode k_D_named 16 = .ok (.getfield 90, 3) := by decide +kernel
theorem d_D_named_19 : decode k_D_named 19 = .ok (.iconst 2, 1) := by decide +kernel
theorem d_D_named_20 : decode k_D_named 20 = .ok (.if_icmp .ne 9, 3) := by decide +kernel
theorem d_D_named_23 : decode k_D_named 23 = .ok (.aload_n 0, 1) := by decide +kernel
theorem d_D_named_24 : decode k_D_named 24 = .ok (.iload_n 1, 1) := by decide +kernel
theorem d_D_named_25 : decode k_D_named 25 = .ok (.invokevirtual 172, 3) := by decide +kernel
theorem d_D_named_28 : decode k_D_named 28 = .ok (.ireturn, 1) := by decide +kernel
theorem d_D_named_29 : decode k_D_named 29 = .ok (.aload_n 0, 1) := by decide +kernel
theorem d_D_named_30 : decode k_D_named 30 = .ok (.getfield 90, 3) := by decide +kernel
theorem d_D_named_33 : decode k_D_named 33 = .ok (.iconst 3, 1) := by decide +kernel
theorem d_D_named_34 : decode k_D_named 34 = .ok (.if_icmp .ne 9, 3) := by decide +kernel
theorem d_D_named_37 : decode k_D_named 37 = .ok (.aload_n 0, 1) := by decide +kernel
theorem d_D_named_38 : decode k_D_named 38 = .ok (.iload_n 1, 1) := by decide +kernel
theorem d_D_named_39 : decode k_D_named 39 = .ok (.invokevirtual 175, 3) := by decide +kernel
theorem d_D_named_42 : decode k_D_named 42 = .ok (.ireturn, 1) := by decide +kernel
theorem d_D_named_43 : decode k_D_named 43 = .ok (.iconst 0, 1) := by decide +kernel
theorem d_D_named_44 : decode k_D_named 44 = .ok (.istore_n 2, 1) := by decide +kernel
theorem d_D_named_45 : decode k_D_named 45 = .ok (.iload_n 2, 1) := by decide +kernel
theorem d_D_named_46 : decode k_D_named 46 = .ok (.aload_n 0, 1) := by decide +kernel
theorem d_D_named_47 : decode k_D_named 47 = .ok (.getfield 130, 3) := by decide +kernel
theorem d_D_named_50 : decode k_D_named 50 = .ok (.if_icmp .ge 18, 3) := by decide +kernel
theorem d_D_named_53 : decode k_D_named 53 = .ok (.aload_n 0, 1) := by decide +kernel
theorem d_D_named_54 : decode k_D_named 54 = .ok (.iload_n 2, 1) := by decide +kernel
theorem d_D_named_55 : decode k_D_named 55 = .ok (.iload_n 1, 1) := by decide +kernel
theorem d_D_named_56 : decode k_D_named 56 = .ok (.invokevirtual 155, 3) := by decide +kernel
theorem d_D_named_59 : decode k_D_named 59 = .ok (.ifCond .ne 9, 3) := by decide +kernel
theorem d_D_named_62 : decode k_D_named 62 = .ok (.iinc 2 1, 3) := by decide +kernel
theorem d_D_named_65 : decode k_D_named 65 = .ok (.goto (-20), 3) := by decide +kernel
theorem d_D_named_68 : decode k_D_named 68 = .ok (.iload_n 2, 1) := by decide +kernel
theorem d_D_named_69 : decode k_D_named 69 = .ok (.aload_n 0, 1) := by decide +kernel
theorem d_D_named_70 : decode k_D_named 70 = .ok (.getfield 130, 3) := by decide +kernel
theorem d_D_named_73 : decode k_D_named 73 = .ok (.if_icmp .ge 15, 3) := by decide +kernel
theorem d_D_named_76 : decode k_D_named 76 = .ok (.aload_n 0, 1) := by decide +kernel
theorem d_D_named_77 : decode k_D_named 77 = .ok (.iload_n 2, 1) := by decide +kernel
theorem d_D_named_78 : decode k_D_named 78 = .ok (.invokevirtual 162, 3) := by decide +kernel
theorem d_D_named_81 : decode k_D_named 81 = .ok (.ifCond .eq 7, 3) := by decide +kernel
theorem d_D_named_84 : decode k_D_named 84 = .ok (.iload_n 2, 1) := by decide +kernel
theorem d_D_named_85 : decode k_D_named 85 = .ok (.goto 4, 3) := by decide +kernel
theorem d_D_named_88 : decode k_D_named 88 = .ok (.iconst (-1), 1) := by decide +kernel
theorem d_D_named_89 : decode k_D_named 89 = .ok (.ireturn, 1) := by decide +kernel
theorem d_D_refresh_0 : decode k_D_refresh 0 = .ok (.aload_n 0, 1) := by decide +kernel
theorem d_D_refresh_1 : decode k_D_refresh 1 = .ok (.iload_n 1, 1) := by decide +kernel
theorem d_D_refresh_2 : decode k_D_refresh 2 = .ok (.invokevirtual 123, 3) := by decide +kernel
theorem d_D_refresh_5 : decode k_D_refresh 5 = .ok (.ifCond .ne 34, 3) := by decide +kernel
theorem d_D_refresh_8 : decode k_D_refresh 8 = .ok (.aload_n 0, 1) := by decide +kernel
theorem d_D_refresh_9 : decode k_D_refresh 9 = .ok (.iload_n 1, 1) := by decide +kernel
theorem d_D_refresh_10 : decode k_D_refresh 10 = .ok (.iconst 4, 1) := by decide +kernel
theorem d_D_refresh_11 : decode k_D_refresh 11 = .ok (.iconst 0, 1) := by decide +kernel
theorem d_D_refresh_12 : decode k_D_refresh 12 = .ok (.aload_n 0, 1) := by decide +kernel
theorem d_D_refresh_13 : decode k_D_refresh 13 = .ok (.getfield 139, 3) := by decide +kernel
theorem d_D_refresh_16 : decode k_D_refresh 16 = .ok (.invokevirtual 152, 3) := by decide +kernel
theorem d_D_refresh_19 : decode k_D_refresh 19 = .ok (.ifCond .lt 4, 3) := by decide +kernel
theorem d_D_refresh_22 : decode k_D_refresh 22 = .ok (.return_, 1) := by decide +kernel
theorem d_D_refresh_23 : decode k_D_refresh 23 = .ok (.aload_n 0, 1) := by decide +kernel
theorem d_D_refresh_24 : decode k_D_refresh 24 = .ok (.iload_n 1, 1) := by decide +kernel
theorem d_D_refresh_25 : decode k_D_refresh 25 = .ok (.iconst 4, 1) := by decide +kernel
theorem d_D_refresh_26 : decode k_D_refresh 26 = .ok (.iconst 0, 1) := by decide +kernel
theorem d_D_refresh_27 : decode k_D_refresh 27 = .ok (.iconst 0, 1) := by decide +kernel
theorem d_D_refresh_28 : decode k_D_refresh 28 = .ok (.invokevirtual 178, 3) := by decide +kernel
theorem d_D_refresh_31 : decode k_D_refresh 31 = .ok (.aload_n 0, 1) := by decide +kernel
theorem d_D_refresh_32 : decode k_D_refresh 32 = .ok (.getfield 43, 3) := by decide +kernel
theorem d_D_refresh_35 : decode k_D_refresh 35 = .ok (.iload_n 1, 1) := by decide +kernel
theorem d_D_refresh_36 : decode k_D_refresh 36 = .ok (.iconst 0, 1) := by decide +kernel
theorem d_D_refresh_37 : decode k_D_refresh 37 = .ok (.bastore, 1) := by decide +kernel
theorem d_D_refresh_38 : decode k_D_refresh 38 = .ok (.return_, 1) := by decide +kernel
theorem d_D_refresh_39 : decode k_D_refresh 39 = .ok (.iconst 0, 1) := by decide +kernel
theorem d_D_refresh_40 : decode k_D_refresh 40 = .ok (.istore_n 2, 1) := by decide +kernel
theorem d_D_refresh_41 : decode k_D_refresh 41 = .ok (.iload_n 2, 1) := by decide +kernel
theorem d_D_refresh_42 : decode k_D_refresh 42 = .ok (.aload_n 0, 1) := by decide +kernel
theorem d_D_refresh_43 : decode k_D_refresh 43 = .ok (.getfield 87, 3) := by decide +kernel
theorem d_D_refresh_46 : decode k_D_refresh 46 = .ok (.if_icmp .ge 56, 3) := by decide +kernel
theorem d_D_refresh_49 : decode k_D_refresh 49 = .ok (.aload_n 0, 1) := by decide +kernel
theorem d_D_refresh_50 : decode k_D_refresh 50 = .ok (.getfield 13, 3) := by decide +kernel
theorem d_D_refresh_53 : decode k_D_refresh 53 = .ok (.bipush 8, 2) := by decide +kernel
theorem d_D_refresh_55 : decode k_D_refresh 55 = .ok (.iload_n 1, 1) := by decide +kernel
theorem d_D_refresh_56 : decode k_D_refresh 56 = .ok (.imul, 1) := by decide +kernel
theorem d_D_refresh_57 : decode k_D_refresh 57 = .ok (.iload_n 2, 1) := by decide +kernel
theorem d_D_refresh_58 : decode k_D_refresh 58 = .ok (.iadd, 1) := by decide +kernel
theorem d_D_refresh_59 : decode k_D_refresh 59 = .ok (.iaload, 1) := by decide +kernel
theorem d_D_refresh_60 : decode k_D_refresh 60 = .ok (.ifCond .lt 36, 3) := by decide +kernel
theorem d_D_refresh_63 : decode k_D_refresh 63 = .ok (.aload_n 0, 1) := by decide +kernel
theorem d_D_refresh_64 : decode k_D_refresh 64 = .ok (.iload_n 1, 1) := by decide +kernel
theorem d_D_refresh_65 : decode k_D_refresh 65 = .ok (.iconst 3, 1) := by decide +kernel
theorem d_D_refresh_66 : decode k_D_refresh 66 = .ok (.iload_n 2, 1) := by decide +kernel
theorem d_D_refresh_67 : decode k_D_refresh 67 = .ok (.aload_n 0, 1) := by decide +kernel
theorem d_D_refresh_68 : decode k_D_refresh 68 = .ok (.getfield 139, 3) := by decide +kernel
theorem d_D_refresh_71 : decode k_D_refresh 71 = .ok (.invokevirtual 152, 3) := by decide +kernel
theorem d_D_refresh_74 : decode k_D_refresh 74 = .ok (.ifCond .ge 22, 3) := by decide +kernel
theorem d_D_refresh_77 : decode k_D_refresh 77 = .ok (.aload_n 0, 1) := by decide +kernel
theorem d_D_refresh_78 : decode k_D_refresh 78 = .ok (.iload_n 1, 1) := by decide +kernel
theorem d_D_refresh_79 : decode k_D_refresh 79 = .ok (.iconst 3, 1) := by decide +kernel
theorem d_D_refresh_80 : decode k_D_refresh 80 = .ok (.iload_n 2, 1) := by decide +kernel
theorem d_D_refresh_81 : decode k_D_refresh 81 = .ok (.aload_n 0, 1) := by decide +kernel
theorem d_D_refresh_82 : decode k_D_refresh 82 = .ok (.getfield 13, 3) := by decide +kernel
theorem d_D_refresh_85 : decode k_D_refresh 85 = .ok (.bipush 8, 2) := by decide +kernel
theorem d_D_refresh_87 : decode k_D_refresh 87 = .ok (.iload_n 1, 1) := by decide +kernel
theorem d_D_refresh_88 : decode k_D_refresh 88 = .ok (.imul, 1) := by decide +kernel
theorem d_D_refresh_89 : decode k_D_refresh 89 = .ok (.iload_n 2, 1) := by decide +kernel
theorem d_D_refresh_90 : decode k_D_refresh 90 = .ok (.iadd, 1) := by decide +kernel
theorem d_D_refresh_91 : decode k_D_refresh 91 = .ok (.iaload, 1) := by decide +kernel
theorem d_D_refresh_92 : decode k_D_refresh 92 = .ok (.invokevirtual 178, 3) := by decide +kernel
theorem d_D_refresh_95 : decode k_D_refresh 95 = .ok (.return_, 1) := by decide +kernel
theorem d_D_refresh_96 : decode k_D_refresh 96 = .ok (.iinc 2 1, 3) := by decide +kernel
theorem d_D_refresh_99 : decode k_D_refresh 99 = .ok (.goto (-58), 3) := by decide +kernel
theorem d_D_refresh_102 : decode k_D_refresh 102 = .ok (.return_, 1) := by decide +kernel
theorem d_D_serve_0 : decode k_D_serve 0 = .ok (.aload_n 0, 1) := by decide +kernel
theorem d_D_serve_1 : decode k_D_serve 1 = .ok (.iload_n 1, 1) := by decide +kernel
theorem d_D_serve_2 : decode k_D_serve 2 = .ok (.invokevirtual 182, 3) := by decide +kernel
theorem d_D_serve_5 : decode k_D_serve 5 = .ok (.istore_n 2, 1) := by decide +kernel
theorem d_D_serve_6 : decode k_D_serve 6 = .ok (.iload_n 2, 1) := by decide +kernel
theorem d_D_serve_7 : decode k_D_serve 7 = .ok (.ifCond .ge 4, 3) := by decide +kernel
theorem d_D_serve_10 : decode k_D_serve 10 = .ok (.return_, 1) := by decide +kernel
theorem d_D_serve_11 : decode k_D_serve 11 = .ok (.aload_n 0, 1) := by decide +kernel
theorem d_D_serve_12 : decode k_D_serve 12 = .ok (.aload_n 0, 1) := by decide +kernel
theorem d_D_serve_13 : decode k_D_serve 13 = .ok (.getfield 50, 3) := by decide +kernel
theorem d_D_serve_16 : decode k_D_serve 16 = .ok (.iload_n 2, 1) := by decide +kernel
theorem d_D_serve_17 : decode k_D_serve 17 = .ok (.iaload, 1) := by decide +kernel
theorem d_D_serve_18 : decode k_D_serve 18 = .ok (.invokevirtual 117, 3) := by decide +kernel
theorem d_D_serve_21 : decode k_D_serve 21 = .ok (.istore_n 3, 1) := by decide +kernel
theorem d_D_serve_22 : decode k_D_serve 22 = .ok (.aload_n 0, 1) := by decide +kernel
theorem d_D_serve_23 : decode k_D_serve 23 = .ok (.iload_n 2, 1) := by decide +kernel
theorem d_D_serve_24 : decode k_D_serve 24 = .ok (.invokevirtual 149, 3) := by decide +kernel
theorem d_D_serve_27 : decode k_D_serve 27 = .ok (.istore 4, 2) := by decide +kernel
theorem d_D_serve_29 : decode k_D_serve 29 = .ok (.aload_n 0, 1) := by decide +kernel
theorem d_D_serve_30 : decode k_D_serve 30 = .ok (.iload_n 1, 1) := by decide +kernel
theorem d_D_serve_31 : decode k_D_serve 31 = .ok (.iload 4, 2) := by decide +kernel
theorem d_D_serve_33 : decode k_D_serve 33 = .ok (.iload_n 3, 1) := by decide +kernel
theorem d_D_serve_34 : decode k_D_serve 34 = .ok (.iload 4, 2) := by decide +kernel
theorem d_D_serve_36 : decode k_D_serve 36 = .ok (.iconst 3, 1) := by decide +kernel
theorem d_D_serve_37 : decode k_D_serve 37 = .ok (.if_icmp .ne 17, 3) := by decide +kernel
theorem d_D_serve_40 : decode k_D_serve 40 = .ok (.aload_n 0, 1) := by decide +kernel
theorem d_D_serve_41 : decode k_D_serve 41 = .ok (.getfield 13, 3) := by decide +kernel
theorem d_D_serve_44 : decode k_D_serve 44 = .ok (.bipush 8, 2) := by decide +kernel
theorem d_D_serve_46 : decode k_D_serve 46 = .ok (.iload_n 1, 1) := by decide +kernel
theorem d_D_serve_47 : decode k_D_serve 47 = .ok (.imul, 1) := by decide +kernel
theorem d_D_serve_48 : decode k_D_serve 48 = .ok (.iload_n 3, 1) := by decide +kernel
theorem d_D_serve_49 : decode k_D_serve 49 = .ok (.iadd, 1) := by decide +kernel
theorem d_D_serve_50 : decode k_D_serve 50 = .ok (.iaload, 1) := by decide +kernel
theorem d_D_serve_51 : decode k_D_serve 51 = .ok (.goto 13, 3) := by decide +kernel
theorem d_D_serve_54 : decode k_D_serve 54 = .ok (.aload_n 0, 1) := by decide +kernel
theorem d_D_serve_55 : decode k_D_serve 55 = .ok (.aload_n 0, 1) := by decide +kernel
theorem d_D_serve_56 : decode k_D_serve 56 = .ok (.getfield 50, 3) := by decide +kernel
theorem d_D_serve_59 : decode k_D_serve 59 = .ok (.iload_n 2, 1) := by decide +kernel
theorem d_D_serve_60 : decode k_D_serve 60 = .ok (.iaload, 1) := by decide +kernel
theorem d_D_serve_61 : decode k_D_serve 61 = .ok (.invokevirtual 120, 3) := by decide +kernel
theorem d_D_serve_64 : decode k_D_serve 64 = .ok (.invokevirtual 178, 3) := by decide +kernel
theorem d_D_serve_67 : decode k_D_serve 67 = .ok (.aload_n 0, 1) := by decide +kernel
theorem d_D_serve_68 : decode k_D_serve 68 = .ok (.getfield 47, 3) := by decide +kernel
theorem d_D_serve_71 : decode k_D_serve 71 = .ok (.iload_n 1, 1) := by decide +kernel
theorem d_D_serve_72 : decode k_D_serve 72 = .ok (.iload_n 3, 1) := by decide +kernel
theorem d_D_serve_73 : decode k_D_serve 73 = .ok (.iastore, 1) := by decide +kernel
theorem d_D_serve_74 : decode k_D_serve 74 = .ok (.iload 4, 2) := by decide +kernel
theorem d_D_serve_76 : decode k_D_serve 76 = .ok (.iconst 1, 1) := by decide +kernel
theorem d_D_serve_77 : decode k_D_serve 77 = .ok (.if_icmp .eq 9, 3) := by decide +kernel
theorem d_D_serve_80 : decode k_D_serve 80 = .ok (.iload 4, 2) := by decide +kernel
theorem d_D_serve_82 : decode k_D_serve 82 = .ok (.iconst 2, 1) := by decide +kernel
theorem d_D_serve_83 : decode k_D_serve 83 = .ok (.if_icmp .ne 43, 3) := by decide +kernel
theorem d_D_serve_86 : decode k_D_serve 86 = .ok (.aload_n 0, 1) := by decide +kernel
theorem d_D_serve_87 : decode k_D_serve 87 = .ok (.getfield 59, 3) := by decide +kernel
theorem d_D_serve_90 : decode k_D_serve 90 = .ok (.iload_n 2, 1) := by decide +kernel
theorem d_D_serve_91 : decode k_D_serve 91 = .ok (.aload_n 0, 1) := by decide +kernel
theorem d_D_serve_92 : decode k_D_serve 92 = .ok (.getfield 139, 3) := by decide +kernel
theorem d_D_serve_95 : decode k_D_serve 95 = .ok (.iastore, 1) := by decide +kernel
theorem d_D_serve_96 : decode k_D_serve 96 = .ok (.aload_n 0, 1) := by decide +kernel
theorem d_D_serve_97 : decode k_D_serve 97 = .ok (.dup, 1) := by decide +kernel
theorem d_D_serve_98 : decode k_D_serve 98 = .ok (.getfield 185, 3) := by decide +kernel
theorem d_D_serve_101 : decode k_D_serve 101 = .ok (.iconst 1, 1) := by decide +kernel
theorem d_D_serve_102 : decode k_D_serve 102 = .ok (.iadd, 1) := by decide +kernel
theorem d_D_serve_103 : decode k_D_serve 103 = .ok (.putfield 185, 3) := by decide +kernel
theorem d_D_serve_106 : decode k_D_serve 106 = .ok (.aload_n 0, 1) := by decide +kernel
theorem d_D_serve_107 : decode k_D_serve 107 = .ok (.dup, 1) := by decide +kernel
theorem d_D_serve_108 : decode k_D_serve 108 = .ok (.getfield 188, 3) := by decide +kernel
theorem d_D_serve_111 : decode k_D_serve 111 = .ok (.aload_n 0, 1) := by decide +kernel
theorem d_D_serve_112 : decode k_D_serve 112 = .ok (.getfield 139, 3) := by decide +kernel
theorem d_D_serve_115 : decode k_D_serve 115 = .ok (.aload_n 0, 1) := by decide +kernel
theorem d_D_serve_116 : decode k_D_serve 116 = .ok (.getfield 56, 3) := by decide +kernel
theorem d_D_serve_119 : decode k_D_serve 119 = .ok (.iload_n 2, 1) := by decide +kernel
theorem d_D_serve_120 : decode k_D_serve 120 = .ok (.iaload, 1) := by decide +kernel
theorem d_D_serve_121 : decode k_D_serve 121 = .ok (.isub, 1) := by decide +kernel
theorem d_D_serve_122 : decode k_D_serve 122 = .ok (.iadd, 1) := by decide +kernel
theorem d_D_serve_123 : decode k_D_serve 123 = .ok (.putfield 188, 3) := by decide +kernel
theorem d_D_serve_126 : decode k_D_serve 126 = .ok (.return_, 1) := by decide +kernel
theorem d_D_run_0 : decode k_D_run 0 = .ok (.aload_n 0, 1) := by decide +kernel
theorem d_D_run_1 : decode k_D_run 1 = .ok (.iconst 0, 1) := by decide +kernel
theorem d_D_run_2 : decode k_D_run 2 = .ok (.putfield 97, 3) := by decide +kernel
theorem d_D_run_5 : decode k_D_run 5 = .ok (.iload_n 1, 1) := by decide +kernel
theorem d_D_run_6 : decode k_D_run 6 = .ok (.iconst 1, 1) := by decide +kernel
theorem d_D_run_7 : decode k_D_run 7 = .ok (.sipush 1000, 3) := by decide +kernel
theorem d_D_run_10 : decode k_D_run 10 = .ok (.invokestatic 102, 3) := by decide +kernel
theorem d_D_run_13 : decode k_D_run 13 = .ok (.ifCond .ne 9, 3) := by decide +kernel
theorem d_D_run_16 : decode k_D_run 16 = .ok (.aload_n 0, 1) := by decide +kernel
theorem d_D_run_17 : decode k_D_run 17 = .ok (.iconst 1, 1) := by decide +kernel
theorem d_D_run_18 : decode k_D_run 18 = .ok (.invokevirtual 110, 3) := by decide +kernel
theorem d_D_run_21 : decode k_D_run 21 = .ok (.ireturn, 1) := by decide +kernel
theorem d_D_run_22 : decode k_D_run 22 = .ok (.aload_n 0, 1) := by decide +kernel
theorem d_D_run_23 : decode k_D_run 23 = .ok (.getfield 185, 3) := by decide +kernel
theorem d_D_run_26 : decode k_D_run 26 = .ok (.istore_n 2, 1) := by decide +kernel
theorem d_D_run_27 : decode k_D_run 27 = .ok (.iconst 0, 1) := by decide +kernel
theorem d_D_run_28 : decode k_D_run 28 = .ok (.istore_n 3, 1) := by decide +kernel
theorem d_D_run_29 : decode k_D_run 29 = .ok (.iload_n 3, 1) := by decide +kernel
theorem d_D_run_30 : decode k_D_run 30 = .ok (.iload_n 1, 1) := by decide +kernel
theorem d_D_run_31 : decode k_D_run 31 = .ok (.if_icmp .ge 89, 3) := by decide +kernel
theorem d_D_run_34 : decode k_D_run 34 = .ok (.aload_n 0, 1) := by decide +kernel
theorem d_D_run_35 : decode k_D_run 35 = .ok (.dup, 1) := by decide +kernel
theorem d_D_run_36 : decode k_D_run 36 = .ok (.getfield 139, 3) := by decide +kernel
theorem d_D_run_39 : decode k_D_run 39 = .ok (.iconst 1, 1) := by decide +kernel
theorem d_D_run_40 : decode k_D_run 40 = .ok (.iadd, 1) := by decide +kernel
theorem d_D_run_41 : decode k_D_run 41 = .ok (.putfield 139, 3) := by decide +kernel
theorem d_D_run_44 : decode k_D_run 44 = .ok (.iconst 0, 1) := by decide +kernel
theorem d_D_run_45 : decode k_D_run 45 = .ok (.istore 4, 2) := by decide +kernel
theorem d_D_run_47 : decode k_D_run 47 = .ok (.iload 4, 2) := by decide +kernel
theorem d_D_run_49 : decode k_D_run 49 = .ok (.aload_n 0, 1) := by decide +kernel
theorem d_D_run_50 : decode k_D_run 50 = .ok (.getfield 80, 3) := by decide +kernel
theorem d_D_run_53 : decode k_D_run 53 = .ok (.if_icmp .ge 61, 3) := by decide +kernel
theorem d_D_run_56 : decode k_D_run 56 = .ok (.aload_n 0, 1) := by decide +kernel
theorem d_D_run_57 : decode k_D_run 57 = .ok (.getfield 136, 3) := by decide +kernel
theorem d_D_run_60 : decode k_D_run 60 = .ok (.ifCond .le 23, 3) := by decide +kernel
theorem d_D_run_63 : decode k_D_run 63 = .ok (.aload_n 0, 1) := by decide +kernel
theorem d_D_run_64 : decode k_D_run 64 = .ok (.getfield 139, 3) := by decide +kernel
theorem d_D_run_67 : decode k_D_run 67 = .ok (.aload_n 0, 1) := by decide +kernel
theorem d_D_run_68 : decode k_D_run 68 = .ok (.getfield 136, 3) := by decide +kernel
theorem d_D_run_71 : decode k_D_run 71 = .ok (.irem, 1) := by decide +kernel
theorem d_D_run_72 : decode k_D_run 72 = .ok (.ifCond .ne 11, 3) := by decide +kernel
theorem d_D_run_75 : decode k_D_run 75 = .ok (.aload_n 0, 1) := by decide +kernel
theorem d_D_run_76 : decode k_D_run 76 = .ok (.getfield 43, 3) := by decide +kernel
theorem d_D_run_79 : decode k_D_run 79 = .ok (.iload 4, 2) := by decide +kernel
theorem d_D_run_81 : decode k_D_run 81 = .ok (.iconst 1, 1) := by decide +kernel
theorem d_D_run_82 : decode k_D_run 82 = .ok (.bastore, 1) := by decide +kernel
theorem d_D_run_83 : decode k_D_run 83 = .ok (.aload_n 0, 1) := by decide +kernel
theorem d_D_run_84 : decode k_D_run 84 = .ok (.getfield 43, 3) := by decide +kernel
theorem d_D_run_87 : decode k_D_run 87 = .ok (.iload 4, 2) := by decide +kernel
theorem d_D_run_89 : decode k_D_run 89 = .ok (.baload, 1) := by decide +kernel
theorem d_D_run_90 : decode k_D_run 90 = .ok (.ifCond .eq 12, 3) := by decide +kernel
theorem d_D_run_93 : decode k_D_run 93 = .ok (.aload_n 0, 1) := by decide +kernel
theorem d_D_run_94 : decode k_D_run 94 = .ok (.iload 4, 2) := by decide +kernel
theorem d_D_run_96 : decode k_D_run 96 = .ok (.invokevirtual 191, 3) := by decide +kernel
theorem d_D_run_99 : decode k_D_run 99 = .ok (.goto 9, 3) := by decide +kernel
theorem d_D_run_102 : decode k_D_run 102 = .ok (.aload_n 0, 1) := by decide +kernel
theorem d_D_run_103 : decode k_D_run 103 = .ok (.iload 4, 2) := by decide +kernel
theorem d_D_run_105 : decode k_D_run 105 = .ok (.invokevirtual 194, 3) := by decide +kernel
theorem d_D_run_108 : decode k_D_run 108 = .ok (.iinc 4 1, 3) := by decide +kernel
theorem d_D_run_111 : decode k_D_run 111 = .ok (.goto (-64), 3) := by decide +kernel
theorem d_D_run_114 : decode k_D_run 114 = .ok (.iinc 3 1, 3) := by decide +kernel
theorem d_D_run_117 : decode k_D_run 117 = .ok (.goto (-88), 3) := by decide +kernel
theorem d_D_run_120 : decode k_D_run 120 = .ok (.aload_n 0, 1) := by decide +kernel
theorem d_D_run_121 : decode k_D_run 121 = .ok (.getfield 185, 3) := by decide +kernel
theorem d_D_run_124 : decode k_D_run 124 = .ok (.iload_n 2, 1) := by decide +kernel
theorem d_D_run_125 : decode k_D_run 125 = .ok (.isub, 1) := by decide +kernel
theorem d_D_run_126 : decode k_D_run 126 = .ok (.ireturn, 1) := by decide +kernel
theorem d_D_done_0 : decode k_D_done 0 = .ok (.aload_n 0, 1) := by decide +kernel
theorem d_D_done_1 : decode k_D_done 1 = .ok (.iconst 0, 1) := by decide +kernel
theorem d_D_done_2 : decode k_D_done 2 = .ok (.putfield 97, 3) := by decide +kernel
theorem d_D_done_5 : decode k_D_done 5 = .ok (.iload_n 1, 1) := by decide +kernel
theorem d_D_done_6 : decode k_D_done 6 = .ok (.iconst 0, 1) := by decide +kernel
theorem d_D_done_7 : decode k_D_done 7 = .ok (.aload_n 0, 1) := by decide +kernel
theorem d_D_done_8 : decode k_D_done 8 = .ok (.getfield 130, 3) := by decide +kernel
theorem d_D_done_11 : decode k_D_done 11 = .ok (.iconst 1, 1) := by decide +kernel
theorem d_D_done_12 : decode k_D_done 12 = .ok (.isub, 1) := by decide +kernel
theorem d_D_done_13 : decode k_D_done 13 = .ok (.invokestatic 102, 3) := by decide +kernel
theorem d_D_done_16 : decode k_D_done 16 = .ok (.ifCond .eq 12, 3) := by decide +kernel
theorem d_D_done_19 : decode k_D_done 19 = .ok (.aload_n 0, 1) := by decide +kernel
theorem d_D_done_20 : decode k_D_done 20 = .ok (.getfield 59, 3) := by decide +kernel
theorem d_D_done_23 : decode k_D_done 23 = .ok (.iload_n 1, 1) := by decide +kernel
theorem d_D_done_24 : decode k_D_done 24 = .ok (.iaload, 1) := by decide +kernel
theorem d_D_done_25 : decode k_D_done 25 = .ok (.goto 8, 3) := by decide +kernel
theorem d_D_done_28 : decode k_D_done 28 = .ok (.aload_n 0, 1) := by decide +kernel
theorem d_D_done_29 : decode k_D_done 29 = .ok (.iconst 1, 1) := by decide +kernel
theorem d_D_done_30 : decode k_D_done 30 = .ok (.invokevirtual 110, 3) := by decide +kernel
theorem d_D_done_33 : decode k_D_done 33 = .ok (.ireturn, 1) := by decide +kernel
theorem d_D_command_0 : decode k_D_command 0 = .ok (.aload_n 0, 1) := by decide +kernel
theorem d_D_command_1 : decode k_D_command 1 = .ok (.iconst 0, 1) := by decide +kernel
theorem d_D_command_2 : decode k_D_command 2 = .ok (.putfield 97, 3) := by decide +kernel
theorem d_D_command_5 : decode k_D_command 5 = .ok (.aload_n 0, 1) := by decide +kernel
theorem d_D_command_6 : decode k_D_command 6 = .ok (.getfield 142, 3) := by decide +kernel
theorem d_D_command_9 : decode k_D_command 9 = .ok (.sipush 512, 3) := by decide +kernel
theorem d_D_command_12 : decode k_D_command 12 = .ok (.if_icmp .ge 10, 3) := by decide +kernel
theorem d_D_command_15 : decode k_D_command 15 = .ok (.aload_n 0, 1) := by decide +kernel
theorem d_D_command_16 : decode k_D_command 16 = .ok (.getfield 142, 3) := by decide +kernel
theorem d_D_command_19 : decode k_D_command 19 = .ok (.goto 6, 3) := by decide +kernel
theorem d_D_command_22 : decode k_D_command 22 = .ok (.sipush 512, 3) := by decide +kernel
theorem d_D_command_25 : decode k_D_command 25 = .ok (.istore_n 3, 1) := by decide +kernel
theorem d_D_command_26 : decode k_D_command 26 = .ok (.iload_n 1, 1) := by decide +kernel
theorem d_D_command_27 : decode k_D_command 27 = .ok (.iconst 0, 1) := by decide +kernel
theorem d_D_command_28 : decode k_D_command 28 = .ok (.iload_n 3, 1) := by decide +kernel
theorem d_D_command_29 : decode k_D_command 29 = .ok (.iconst 1, 1) := by decide +kernel
theorem d_D_command_30 : decode k_D_command 30 = .ok (.isub, 1) := by decide +kernel
theorem d_D_command_31 : decode k_D_command 31 = .ok (.invokestatic 102, 3) := by decide +kernel
theorem d_D_command_34 : decode k_D_command 34 = .ok (.ifCond .eq 12, 3) := by decide +kernel
theorem d_D_command_37 : decode k_D_command 37 = .ok (.iload_n 2, 1) := by decide +kernel
theorem d_D_command_38 : decode k_D_command 38 = .ok (.iconst 0, 1) := by decide +kernel
theorem d_D_command_39 : decode k_D_command 39 = .ok (.iconst 4, 1) := by decide +kernel
theorem d_D_command_40 : decode k_D_command 40 = .ok (.invokestatic 102, 3) := by decide +kernel
theorem d_D_command_43 : decode k_D_command 43 = .ok (.ifCond .ne 9, 3) := by decide +kernel
theorem d_D_command_46 : decode k_D_command 46 = .ok (.aload_n 0, 1) := by decide +kernel
theorem d_D_command_47 : decode k_D_command 47 = .ok (.iconst 1, 1) := by decide +kernel
theorem d_D_command_48 : decode k_D_command 48 = .ok (.invokevirtual 110, 3) := by decide +kernel
theorem d_D_command_51 : decode k_D_command 51 = .ok (.ireturn, 1) := by decide +kernel
theorem d_D_command_52 : decode k_D_command 52 = .ok (.aload_n 0, 1) := by decide +kernel
theorem d_D_command_53 : decode k_D_command 53 = .ok (.getfield 142, 3) := by decide +kernel
theorem d_D_command_56 : decode k_D_command 56 = .ok (.iload_n 3, 1) := by decide +kernel
theorem d_D_command_57 : decode k_D_command 57 = .ok (.isub, 1) := by decide +kernel
theorem d_D_command_58 : decode k_D_command 58 = .ok (.iload_n 1, 1) := by decide +kernel
theorem d_D_command_59 : decode k_D_command 59 = .ok (.iadd, 1) := by decide +kernel
theorem d_D_command_60 : decode k_D_command 60 = .ok (.sipush 512, 3) := by decide +kernel
theorem d_D_command_63 : decode k_D_command 63 = .ok (.irem, 1) := by decide +kernel
theorem d_D_command_64 : decode k_D_command 64 = .ok (.istore 4, 2) := by decide +kernel
theorem d_D_command_66 : decode k_D_command 66 = .ok (.iload_n 2, 1) := by decide +kernel
theorem d_D_command_67 : decode k_D_command 67 = .ok (.ifCond .ne 13, 3) := by decide +kernel
theorem d_D_command_70 : decode k_D_command 70 = .ok (.aload_n 0, 1) := by decide +kernel
theorem d_D_command_71 : decode k_D_command 71 = .ok (.getfield 65, 3) := by decide +kernel
theorem d_D_command_74 : decode k_D_command 74 = .ok (.iload 4, 2) := by decide +kernel
theorem d_D_command_76 : decode k_D_command 76 = .ok (.iaload, 1) := by decide +kernel
theorem d_D_command_77 : decode k_D_command 77 = .ok (.goto 55, 3) := by decide +kernel
theorem d_D_command_80 : decode k_D_command 80 = .ok (.iload_n 2, 1) := by decide +kernel
theorem d_D_command_81 : decode k_D_command 81 = .ok (.iconst 1, 1) := by decide +kernel
theorem d_D_command_82 : decode k_D_command 82 = .ok (.if_icmp .ne 13, 3) := by decide +kernel
theorem d_D_command_85 : decode k_D_command 85 = .ok (.aload_n 0, 1) := by decide +kernel
theorem d_D_command_86 : decode k_D_command 86 = .ok (.getfield 68, 3) := by decide +kernel
theorem d_D_command_89 : decode k_D_command 89 = .ok (.iload 4, 2) := by decide +kernel
theorem d_D_command_91 : decode k_D_command 91 = .ok (.iaload, 1) := by decide +kernel
theorem d_D_command_92 : decode k_D_command 92 = .ok (.goto 40, 3) := by decide +kernel
theorem d_D_command_95 : decode k_D_command 95 = .ok (.iload_n 2, 1) := by decide +kernel
theorem d_D_command_96 : decode k_D_command 96 = .ok (.iconst 2, 1) := by decide +kernel
theorem d_D_command_97 : decode k_D_command 97 = .ok (.if_icmp .ne 13, 3) := by decide +kernel
theorem d_D_command_100 : decode k_D_command 100 = .ok (.aload_n 0, 1) := by decide +kernel
theorem d_D_command_101 : decode k_D_command 101 = .ok (.getfield 71, 3) := by decide +kernel
theorem d_D_command_104 : decode k_D_command 104 = .ok (.iload 4, 2) := by decide +kernel
theorem d_D_command_106 : decode k_D_command 106 = .ok (.iaload, 1) := by decide +kernel
theorem d_D_command_107 : decode k_D_command 107 = .ok (.goto 25, 3) := by decide +kernel
theorem d_D_command_110 : decode k_D_command 110 = .ok (.iload_n 2, 1) := by decide +kernel
theorem d_D_command_111 : decode k_D_command 111 = .ok (.iconst 3, 1) := by decide +kernel
theorem d_D_command_112 : decode k_D_command 112 = .ok (.if_icmp .ne 13, 3) := by decide +kernel
theorem d_D_command_115 : decode k_D_command 115 = .ok (.aload_n 0, 1) := by decide +kernel
theorem d_D_command_116 : decode k_D_command 116 = .ok (.getfield 74, 3) := by decide +kernel
theorem d_D_command_119 : decode k_D_command 119 = .ok (.iload 4, 2) := by decide +kernel
theorem d_D_command_121 : decode k_D_command 121 = .ok (.iaload, 1) := by decide +kernel
theorem d_D_command_122 : decode k_D_command 122 = .ok (.goto 10, 3) := by decide +kernel
theorem d_D_command_125 : decode k_D_command 125 = .ok (.aload_n 0, 1) := by decide +kernel
theorem d_D_command_126 : decode k_D_command 126 = .ok (.getfield 77, 3) := by decide +kernel
theorem d_D_command_129 : decode k_D_command 129 = .ok (.iload 4, 2) := by decide +kernel
theorem d_D_command_131 : decode k_D_command 131 = .ok (.iaload, 1) := by decide +kernel
theorem d_D_command_132 : decode k_D_command 132 = .ok (.ireturn, 1) := by decide +kernel
theorem d_D_open_0 : decode k_D_open 0 = .ok (.aload_n 0, 1) := by decide +kernel
theorem d_D_open_1 : decode k_D_open 1 = .ok (.iconst 0, 1) := by decide +kernel
theorem d_D_open_2 : decode k_D_open 2 = .ok (.putfield 97, 3) := by decide +kernel
theorem d_D_open_5 : decode k_D_open 5 = .ok (.iload_n 1, 1) := by decide +kernel
theorem d_D_open_6 : decode k_D_open 6 = .ok (.iconst 0, 1) := by decide +kernel
theorem d_D_open_7 : decode k_D_open 7 = .ok (.aload_n 0, 1) := by decide +kernel
theorem d_D_open_8 : decode k_D_open 8 = .ok (.getfield 80, 3) := by decide +kernel
theorem d_D_open_11 : decode k_D_open 11 = .ok (.iconst 1, 1) := by decide +kernel
theorem d_D_open_12 : decode k_D_open 12 = .ok (.isub, 1) := by decide +kernel
theorem d_D_open_13 : decode k_D_open 13 = .ok (.invokestatic 102, 3) := by decide +kernel
theorem d_D_open_16 : decode k_D_open 16 = .ok (.ifCond .eq 31, 3) := by decide +kernel
theorem d_D_open_19 : decode k_D_open 19 = .ok (.iload_n 2, 1) := by decide +kernel
theorem d_D_open_20 : decode k_D_open 20 = .ok (.iconst 0, 1) := by decide +kernel
theorem d_D_open_21 : decode k_D_open 21 = .ok (.aload_n 0, 1) := by decide +kernel
theorem d_D_open_22 : decode k_D_open 22 = .ok (.getfield 87, 3) := by decide +kernel
theorem d_D_open_25 : decode k_D_open 25 = .ok (.iconst 1, 1) := by decide +kernel
theorem d_D_open_26 : decode k_D_open 26 = .ok (.isub, 1) := by decide +kernel
theorem d_D_open_27 : decode k_D_open 27 = .ok (.invokestatic 102, 3) := by decide +kernel
theorem d_D_open_30 : decode k_D_open 30 = .ok (.ifCond .eq 17, 3) := by decide +kernel
theorem d_D_open_33 : decode k_D_open 33 = .ok (.aload_n 0, 1) := by decide +kernel
theorem d_D_open_34 : decode k_D_open 34 = .ok (.getfield 13, 3) := by decide +kernel
theorem d_D_open_37 : decode k_D_open 37 = .ok (.bipush 8, 2) := by decide +kernel
theorem d_D_open_39 : decode k_D_open 39 = .ok (.iload_n 1, 1) := by decide +kernel
theorem d_D_open_40 : decode k_D_open 40 = .ok (.imul, 1) := by decide +kernel
theorem d_D_open_41 : decode k_D_open 41 = .ok (.iload_n 2, 1) := by decide +kernel
theorem d_D_open_42 : decode k_D_open 42 = .ok (.iadd, 1) := by decide +kernel
theorem d_D_open_43 : decode k_D_open 43 = .ok (.iaload, 1) := by decide +kernel
theorem d_D_open_44 : decode k_D_open 44 = .ok (.goto 8, 3) := by decide +kernel
theorem d_D_open_47 : decode k_D_open 47 = .ok (.aload_n 0, 1) := by decide +kernel
theorem d_D_open_48 : decode k_D_open 48 = .ok (.iconst 1, 1) := by decide +kernel
theorem d_D_open_49 : decode k_D_open 49 = .ok (.invokevirtual 110, 3) := by decide +kernel
theorem d_D_open_52 : decode k_D_open 52 = .ok (.ireturn, 1) := by decide +kernel
theorem d_D_begin_0 : decode k_D_begin 0 = .ok (.aload_n 0, 1) := by decide +kernel
theorem d_D_begin_1 : decode k_D_begin 1 = .ok (.iconst 0, 1) := by decide +kernel
theorem d_D_begin_2 : decode k_D_begin 2 = .ok (.putfield 97, 3) := by decide +kernel
theorem d_D_begin_5 : decode k_D_begin 5 = .ok (.aload_n 0, 1) := by decide +kernel
theorem d_D_begin_6 : decode k_D_begin 6 = .ok (.iconst 2, 1) := by decide +kernel
theorem d_D_begin_7 : decode k_D_begin 7 = .ok (.invokevirtual 93, 3) := by decide +kernel
theorem d_D_begin_10 : decode k_D_begin 10 = .ok (.aload_n 0, 1) := by decide +kernel
theorem d_D_begin_11 : decode k_D_begin 11 = .ok (.iconst 3, 1) := by decide +kernel
theorem d_D_begin_12 : decode k_D_begin 12 = .ok (.invokevirtual 93, 3) := by decide +kernel
theorem d_D_begin_15 : decode k_D_begin 15 = .ok (.return_, 1) := by decide +kernel
theorem d_D_check_0 : decode k_D_check 0 = .ok (.aload_n 0, 1) := by decide +kernel
theorem d_D_check_1 : decode k_D_check 1 = .ok (.iconst 0, 1) := by decide +kernel
theorem d_D_check_2 : decode k_D_check 2 = .ok (.putfield 97, 3) := by decide +kernel
theorem d_D_check_5 : decode k_D_check 5 = .ok (.iload_n 1, 1) := by decide +kernel
theorem d_D_check_6 : decode k_D_check 6 = .ok (.iconst 0, 1) := by decide +kernel
theorem d_D_check_7 : decode k_D_check 7 = .ok (.aload_n 0, 1) := by decide +kernel
theorem d_D_check_8 : decode k_D_check 8 = .ok (.getfield 80, 3) := by decide +kernel
theorem d_D_check_11 : decode k_D_check 11 = .ok (.iconst 1, 1) := by decide +kernel
theorem d_D_check_12 : decode k_D_check 12 = .ok (.isub, 1) := by decide +kernel
theorem d_D_check_13 : decode k_D_check 13 = .ok (.invokestatic 102, 3) := by decide +kernel
theorem d_D_check_16 : decode k_D_check 16 = .ok (.ifCond .eq 46, 3) := by decide +kernel
theorem d_D_check_19 : decode k_D_check 19 = .ok (.iload_n 3, 1) := by decide +kernel
theorem d_D_check_20 : decode k_D_check 20 = .ok (.iconst 0, 1) := by decide +kernel
theorem d_D_check_21 : decode k_D_check 21 = .ok (.iconst 4, 1) := by decide +kernel
theorem d_D_check_22 : decode k_D_check 22 = .ok (.invokestatic 102, 3) := by decide +kernel
theorem d_D_check_25 : decode k_D_check 25 = .ok (.ifCond .eq 37, 3) := by decide +kernel
theorem d_D_check_28 : decode k_D_check 28 = .ok (.iload 4, 2) := by decide +kernel
theorem d_D_check_30 : decode k_D_check 30 = .ok (.iconst 0, 1) := by decide +kernel
theorem d_D_check_31 : decode k_D_check 31 = .ok (.aload_n 0, 1) := by decide +kernel
theorem d_D_check_32 : decode k_D_check 32 = .ok (.getfield 87, 3) := by decide +kernel
theorem d_D_check_35 : decode k_D_check 35 = .ok (.iconst 1, 1) := by decide +kernel
theorem d_D_check_36 : decode k_D_check 36 = .ok (.isub, 1) := by decide +kernel
theorem d_D_check_37 : decode k_D_check 37 = .ok (.invokestatic 102, 3) := by decide +kernel
theorem d_D_check_40 : decode k_D_check 40 = .ok (.ifCond .eq 22, 3) := by decide +kernel
theorem d_D_check_43 : decode k_D_check 43 = .ok (.iload_n 2, 1) := by decide +kernel
theorem d_D_check_44 : decode k_D_check 44 = .ok (.ifCond .lt 18, 3) := by decide +kernel
theorem d_D_check_47 : decode k_D_check 47 = .ok (.iload 5, 2) := by decide +kernel
theorem d_D_check_49 : decode k_D_check 49 = .ok (.iconst 0, 1) := by decide +kernel
theorem d_D_check_50 : decode k_D_check 50 = .ok (.ldc 197, 2) := by decide +kernel
theorem d_D_check_52 : decode k_D_check 52 = .ok (.invokestatic 102, 3) := by decide +kernel
theorem d_D_check_55 : decode k_D_check 55 = .ok (.ifCond .eq 7, 3) := by decide +kernel
theorem d_D_check_58 : decode k_D_check 58 = .ok (.iconst 1, 1) := by decide +kernel
theorem d_D_check_59 : decode k_D_check 59 = .ok (.goto 4, 3) := by decide +kernel
theorem d_D_check_62 : decode k_D_check 62 = .ok (.iconst 0, 1) := by decide +kernel
theorem d_D_check_63 : decode k_D_check 63 = .ok (.istore 6, 2) := by decide +kernel
theorem d_D_check_65 : decode k_D_check 65 = .ok (.iload 6, 2) := by decide +kernel
theorem d_D_check_67 : decode k_D_check 67 = .ok (.ifCond .eq 18, 3) := by decide +kernel
theorem d_D_check_70 : decode k_D_check 70 = .ok (.iload_n 3, 1) := by decide +kernel
theorem d_D_check_71 : decode k_D_check 71 = .ok (.iconst 4, 1) := by decide +kernel
theorem d_D_check_72 : decode k_D_check 72 = .ok (.if_icmp .ne 19, 3) := by decide +kernel
theorem d_D_check_75 : decode k_D_check 75 = .ok (.iload 4, 2) := by decide +kernel
theorem d_D_check_77 : decode k_D_check 77 = .ok (.ifCond .ne 8, 3) := by decide +kernel
theorem d_D_check_80 : decode k_D_check 80 = .ok (.iload 5, 2) := by decide +kernel
theorem d_D_check_82 : decode k_D_check 82 = .ok (.ifCond .eq 9, 3) := by decide +kernel
theorem d_D_check_85 : decode k_D_check 85 = .ok (.aload_n 0, 1) := by decide +kernel
theorem d_D_check_86 : decode k_D_check 86 = .ok (.iconst 1, 1) := by decide +kernel
theorem d_D_check_87 : decode k_D_check 87 = .ok (.invokevirtual 110, 3) := by decide +kernel
theorem d_D_check_90 : decode k_D_check 90 = .ok (.ireturn, 1) := by decide +kernel
theorem d_D_check_91 : decode k_D_check 91 = .ok (.iconst 2, 1) := by decide +kernel
theorem d_D_check_92 : decode k_D_check 92 = .ok (.iload_n 1, 1) := by decide +kernel
theorem d_D_check_93 : decode k_D_check 93 = .ok (.iadd, 1) := by decide +kernel
theorem d_D_check_94 : decode k_D_check 94 = .ok (.istore 7, 2) := by decide +kernel
theorem d_D_check_96 : decode k_D_check 96 = .ok (.iload_n 2, 1) := by decide +kernel
theorem d_D_check_97 : decode k_D_check 97 = .ok (.aload_n 0, 1) := by decide +kernel
theorem d_D_check_98 : decode k_D_check 98 = .ok (.getfield 40, 3) := by decide +kernel
theorem d_D_check_101 : decode k_D_check 101 = .ok (.iload 7, 2) := by decide +kernel
theorem d_D_check_103 : decode k_D_check 103 = .ok (.iaload, 1) := by decide +kernel
theorem d_D_check_104 : decode k_D_check 104 = .ok (.if_icmp .gt 5, 3) := by decide +kernel
theorem d_D_check_107 : decode k_D_check 107 = .ok (.iconst 1, 1) := by decide +kernel
theorem d_D_check_108 : decode k_D_check 108 = .ok (.ireturn, 1) := by decide +kernel
theorem d_D_check_109 : decode k_D_check 109 = .ok (.aload_n 0, 1) := by decide +kernel
theorem d_D_check_110 : decode k_D_check 110 = .ok (.iload 7, 2) := by decide +kernel
theorem d_D_check_112 : decode k_D_check 112 = .ok (.iload_n 3, 1) := by decide +kernel
theorem d_D_check_113 : decode k_D_check 113 = .ok (.iload 4, 2) := by decide +kernel
theorem d_D_check_115 : decode k_D_check 115 = .ok (.iload 5, 2) := by decide +kernel
theorem d_D_check_117 : decode k_D_check 117 = .ok (.invokevirtual 198, 3) := by decide +kernel
theorem d_D_check_120 : decode k_D_check 120 = .ok (.ifCond .ne 5, 3) := by decide +kernel
theorem d_D_check_123 : decode k_D_check 123 = .ok (.iconst 2, 1) := by decide +kernel
theorem d_D_check_124 : decode k_D_check 124 = .ok (.ireturn, 1) := by decide +kernel
theorem d_D_check_125 : decode k_D_check 125 = .ok (.aload_n 0, 1) := by decide +kernel
theorem d_D_check_126 : decode k_D_check 126 = .ok (.iload 7, 2) := by decide +kernel
theorem d_D_check_128 : decode k_D_check 128 = .ok (.iload_n 3, 1) := by decide +kernel
theorem d_D_check_129 : decode k_D_check 129 = .ok (.iload 4, 2) := by decide +kernel
theorem d_D_check_131 : decode k_D_check 131 = .ok (.iload_n 2, 1) := by decide +kernel
theorem d_D_check_132 : decode k_D_check 132 = .ok (.invokevirtual 152, 3) := by decide +kernel
theorem d_D_check_135 : decode k_D_check 135 = .ok (.istore 8, 2) := by decide +kernel
theorem d_D_check_137 : decode k_D_check 137 = .ok (.iload 8, 2) := by decide +kernel
theorem d_D_check_139 : decode k_D_check 139 = .ok (.ifCond .lt 8, 3) := by decide +kernel
theorem d_D_check_142 : decode k_D_check 142 = .ok (.iconst 3, 1) := by decide +kernel
theorem d_D_check_143 : decode k_D_check 143 = .ok (.iload 8, 2) := by decide +kernel
theorem d_D_check_145 : decode k_D_check 145 = .ok (.iadd, 1) := by decide +kernel
theorem d_D_check_146 : decode k_D_check 146 = .ok (.ireturn, 1) := by decide +kernel
theorem d_D_check_147 : decode k_D_check 147 = .ok (.aload_n 0, 1) := by decide +kernel
theorem d_D_check_148 : decode k_D_check 148 = .ok (.iload 7, 2) := by decide +kernel
theorem d_D_check_150 : decode k_D_check 150 = .ok (.iload_n 3, 1) := by decide +kernel
theorem d_D_check_151 : decode k_D_check 151 = .ok (.iload 4, 2) := by decide +kernel
theorem d_D_check_153 : decode k_D_check 153 = .ok (.iload 5, 2) := by decide +kernel
theorem d_D_check_155 : decode k_D_check 155 = .ok (.iload_n 2, 1) := by decide +kernel
theorem d_D_check_156 : decode k_D_check 156 = .ok (.invokevirtual 145, 3) := by decide +kernel
theorem d_D_check_159 : decode k_D_check 159 = .ok (.aload_n 0, 1) := by decide +kernel
theorem d_D_check_160 : decode k_D_check 160 = .ok (.getfield 40, 3) := by decide +kernel
theorem d_D_check_163 : decode k_D_check 163 = .ok (.iload 7, 2) := by decide +kernel
theorem d_D_check_165 : decode k_D_check 165 = .ok (.iload_n 2, 1) := by decide +kernel
theorem d_D_check_166 : decode k_D_check 166 = .ok (.iastore, 1) := by decide +kernel
theorem d_D_check_167 : decode k_D_check 167 = .ok (.iconst 0, 1) := by decide +kernel
theorem d_D_check_168 : decode k_D_check 168 = .ok (.ireturn, 1) := by decide +kernel
theorem d_D_count_0 : decode k_D_count 0 = .ok (.aload_n 0, 1) := by decide +kernel
theorem d_D_count_1 : decode k_D_count 1 = .ok (.iconst 0, 1) := by decide +kernel
theorem d_D_count_2 : decode k_D_count 2 = .ok (.putfield 97, 3) := by decide +kernel
theorem d_D_count_5 : decode k_D_count 5 = .ok (.iload_n 1, 1) := by decide +kernel
theorem d_D_count_6 : decode k_D_count 6 = .ok (.iconst 0, 1) := by decide +kernel
theorem d_D_count_7 : decode k_D_count 7 = .ok (.bipush 13, 2) := by decide +kernel
theorem d_D_count_9 : decode k_D_count 9 = .ok (.invokestatic 102, 3) := by decide +kernel
theorem d_D_count_12 : decode k_D_count 12 = .ok (.ifCond .ne 5, 3) := by decide +kernel
theorem d_D_count_15 : decode k_D_count 15 = .ok (.iconst (-1), 1) := by decide +kernel
theorem d_D_count_16 : decode k_D_count 16 = .ok (.ireturn, 1) := by decide +kernel
theorem d_D_count_17 : decode k_D_count 17 = .ok (.iload_n 1, 1) := by decide +kernel
theorem d_D_count_18 : decode k_D_count 18 = .ok (.iconst 4, 1) := by decide +kernel
theorem d_D_count_19 : decode k_D_count 19 = .ok (.bipush 8, 2) := by decide +kernel
theorem d_D_count_21 : decode k_D_count 21 = .ok (.invokestatic 102, 3) := by decide +kernel
theorem d_D_count_24 : decode k_D_count 24 = .ok (.ifCond .eq 12, 3) := by decide +kernel
theorem d_D_count_27 : decode k_D_count 27 = .ok (.aload_n 0, 1) := by decide +kernel
theorem d_D_count_28 : decode k_D_count 28 = .ok (.getfield 62, 3) := by decide +kernel
theorem d_D_count_31 : decode k_D_count 31 = .ok (.iload_n 1, 1) := by decide +kernel
theorem d_D_count_32 : decode k_D_count 32 = .ok (.iconst 4, 1) := by decide +kernel
theorem d_D_count_33 : decode k_D_count 33 = .ok (.isub, 1) := by decide +kernel
theorem d_D_count_34 : decode k_D_count 34 = .ok (.iaload, 1) := by decide +kernel
theorem d_D_count_35 : decode k_D_count 35 = .ok (.ireturn, 1) := by decide +kernel
theorem d_D_count_36 : decode k_D_count 36 = .ok (.iload_n 1, 1) := by decide +kernel
theorem d_D_count_37 : decode k_D_count 37 = .ok (.tableswitch 133 0 12 #[67, 72, 77, 82, 133, 133, 133, 133, 133, 87, 117, 123, 128], 67) := by decide +kernel
theorem d_D_count_104 : decode k_D_count 104 = .ok (.aload_n 0, 1) := by decide +kernel
theorem d_D_count_105 : decode k_D_count 105 = .ok (.getfield 139, 3) := by decide +kernel
theorem d_D_count_108 : decode k_D_count 108 = .ok (.ireturn, 1) := by decide +kernel
theorem d_D_count_109 : decode k_D_count 109 = .ok (.aload_n 0, 1) := by decide +kernel
theorem d_D_count_110 : decode k_D_count 110 = .ok (.getfield 130, 3) := by decide +kernel
theorem d_D_count_113 : decode k_D_count 113 = .ok (.ireturn, 1) := by decide +kernel
theorem d_D_count_114 : decode k_D_count 114 = .ok (.aload_n 0, 1) := by decide +kernel
theorem d_D_count_115 : decode k_D_count 115 = .ok (.getfield 185, 3) := by decide +kernel
theorem d_D_count_118 : decode k_D_count 118 = .ok (.ireturn, 1) := by decide +kernel
theorem d_D_count_119 : decode k_D_count 119 = .ok (.aload_n 0, 1) := by decide +kernel
theorem d_D_count_120 : decode k_D_count 120 = .ok (.getfield 142, 3) := by decide +kernel
theorem d_D_count_123 : decode k_D_count 123 = .ok (.ireturn, 1) := by decide +kernel
theorem d_D_count_124 : decode k_D_count 124 = .ok (.aload_n 0, 1) := by decide +kernel
theorem d_D_count_125 : decode k_D_count 125 = .ok (.getfield 43, 3) := by decide +kernel
theorem d_D_count_128 : decode k_D_count 128 = .ok (.iconst 0, 1) := by decide +kernel
theorem d_D_count_129 : decode k_D_count 129 = .ok (.baload, 1) := by decide +kernel
theorem d_D_count_130 : decode k_D_count 130 = .ok (.ifCond .eq 7, 3) := by decide +kernel
theorem d_D_count_133 : decode k_D_count 133 = .ok (.iconst 1, 1) := by decide +kernel
theorem d_D_count_134 : decode k_D_count 134 = .ok (.goto 4, 3) := by decide +kernel
theorem d_D_count_137 : decode k_D_count 137 = .ok (.iconst 0, 1) := by decide +kernel
theorem d_D_count_138 : decode k_D_count 138 = .ok (.aload_n 0, 1) := by decide +kernel
theorem d_D_count_139 : decode k_D_count 139 = .ok (.getfield 43, 3) := by decide +kernel
theorem d_D_count_142 : decode k_D_count 142 = .ok (.iconst 1, 1) := by decide +kernel
theorem d_D_count_143 : decode k_D_count 143 = .ok (.baload, 1) := by decide +kernel
theorem d_D_count_144 : decode k_D_count 144 = .ok (.ifCond .eq 7, 3) := by decide +kernel
theorem d_D_count_147 : decode k_D_count 147 = .ok (.iconst 1, 1) := by decide +kernel
theorem d_D_count_148 : decode k_D_count 148 = .ok (.goto 4, 3) := by decide +kernel
theorem d_D_count_151 : decode k_D_count 151 = .ok (.iconst 0, 1) := by decide +kernel
theorem d_D_count_152 : decode k_D_count 152 = .ok (.iadd, 1) := by decide +kernel
theorem d_D_count_153 : decode k_D_count 153 = .ok (.ireturn, 1) := by decide +kernel
theorem d_D_count_154 : decode k_D_count 154 = .ok (.aload_n 0, 1) := by decide +kernel
theorem d_D_count_155 : decode k_D_count 155 = .ok (.iconst (-1), 1) := by decide +kernel
theorem d_D_count_156 : decode k_D_count 156 = .ok (.invokevirtual 133, 3) := by decide +kernel
theorem d_D_count_159 : decode k_D_count 159 = .ok (.ireturn, 1) := by decide +kernel
theorem d_D_count_160 : decode k_D_count 160 = .ok (.aload_n 0, 1) := by decide +kernel
theorem d_D_count_161 : decode k_D_count 161 = .ok (.getfield 188, 3) := by decide +kernel
theorem d_D_count_164 : decode k_D_count 164 = .ok (.ireturn, 1) := by decide +kernel
theorem d_D_count_165 : decode k_D_count 165 = .ok (.aload_n 0, 1) := by decide +kernel
theorem d_D_count_166 : decode k_D_count 166 = .ok (.getfield 80, 3) := by decide +kernel
theorem d_D_count_169 : decode k_D_count 169 = .ok (.ireturn, 1) := by decide +kernel
theorem d_D_count_170 : decode k_D_count 170 = .ok (.aload_n 0, 1) := by decide +kernel
theorem d_D_count_171 : decode k_D_count 171 = .ok (.getfield 87, 3) := by decide +kernel
theorem d_D_count_174 : decode k_D_count 174 = .ok (.ireturn, 1) := by decide +kernel
