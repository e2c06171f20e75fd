theorem dX12_go_4 : decode cX12_go 4 = .ok (.aload_n 0, 1) := by decide +kernel
theorem dX12_go_5 : decode cX12_go 5 = .ok (.getfield 202, 3) := by decide +kernel
theorem dX12_go_8 : decode cX12_go 8 = .ok (.iconst 4, 1) := by decide +kernel
theorem dX12_go_9 : decode cX12_go 9 = .ok (.if_icmp .ne 26, 3) := by decide +kernel
theorem dX12_go_12 : decode cX12_go 12 = .ok (.aload_n 0, 1) := by decide +kernel
theorem dX12_go_13 : decode cX12_go 13 = .ok (.dup, 1) := by decide +kernel
theorem dX12_go_14 : decode cX12_go 14 = .ok (.getfield 218, 3) := by decide +kernel
theorem dX12_go_17 : decode cX12_go 17 = .ok (.iconst 1, 1) := by decide +kernel
theorem dX12_go_18 : decode cX12_go 18 = .ok (.isub, 1) := by decide +kernel
theorem dX12_go_19 : decode cX12_go 19 = .ok (.putfield 218, 3) := by decide +kernel
theorem dX12_go_22 : decode cX12_go 22 = .ok (.aload_n 0, 1) := by decide +kernel
theorem dX12_go_23 : decode cX12_go 23 = .ok (.dup, 1) := by decide +kernel
theorem dX12_go_24 : decode cX12_go 24 = .ok (.getfield 250, 3) := by decide +kernel
theorem dX12_go_27 : decode cX12_go 27 = .ok (.iconst 1, 1) := by decide +kernel
theorem dX12_go_28 : decode cX12_go 28 = .ok (.iadd, 1) := by decide +kernel
theorem dX12_go_29 : decode cX12_go 29 = .ok (.putfield 250, 3) := by decide +kernel
theorem dX12_go_32 : decode cX12_go 32 = .ok (.goto 88, 3) := by decide +kernel
theorem dX12_go_35 : decode cX12_go 35 = .ok (.aload_n 0, 1) := by decide +kernel
theorem dX12_go_36 : decode cX12_go 36 = .ok (.getfield 202, 3) := by decide +kernel
theorem dX12_go_39 : decode cX12_go 39 = .ok (.ifCond .ne 37, 3) := by decide +kernel
theorem dX12_go_42 : decode cX12_go 42 = .ok (.aload_n 0, 1) := by decide +kernel
theorem dX12_go_43 : decode cX12_go 43 = .ok (.getfield 23, 3) := by decide +kernel
theorem dX12_go_46 : decode cX12_go 46 = .ok (.aload_n 0, 1) := by decide +kernel
theorem dX12_go_47 : decode cX12_go 47 = .ok (.getfield 205, 3) := by decide +kernel
theorem dX12_go_50 : decode cX12_go 50 = .ok (.aload_n 0, 1) := by decide +kernel
theorem dX12_go_51 : decode cX12_go 51 = .ok (.getfield 35, 3) := by decide +kernel
theorem dX12_go_54 : decode cX12_go 54 = .ok (.aload_n 0, 1) := by decide +kernel
theorem dX12_go_55 : decode cX12_go 55 = .ok (.getfield 208, 3) := by decide +kernel
theorem dX12_go_58 : decode cX12_go 58 = .ok (.iaload, 1) := by decide +kernel
theorem dX12_go_59 : decode cX12_go 59 = .ok (.invokestatic 172, 3) := by decide +kernel
theorem dX12_go_62 : decode cX12_go 62 = .ok (.iastore, 1) := by decide +kernel
theorem dX12_go_63 : decode cX12_go 63 = .ok (.aload_n 0, 1) := by decide +kernel
theorem dX12_go_64 : decode cX12_go 64 = .ok (.dup, 1) := by decide +kernel
theorem dX12_go_65 : decode cX12_go 65 = .ok (.getfield 253, 3) := by decide +kernel
theorem dX12_go_68 : decode cX12_go 68 = .ok (.iconst 1, 1) := by decide +kernel
theorem dX12_go_69 : decode cX12_go 69 = .ok (.iadd, 1) := by decide +kernel
theorem dX12_go_70 : decode cX12_go 70 = .ok (.putfield 253, 3) := by decide +kernel
theorem dX12_go_73 : decode cX12_go 73 = .ok (.goto 47, 3) := by decide +kernel
theorem dX12_go_76 : decode cX12_go 76 = .ok (.aload_n 0, 1) := by decide +kernel
theorem dX12_go_77 : decode cX12_go 77 = .ok (.getfield 202, 3) := by decide +kernel
theorem dX12_go_80 : decode cX12_go 80 = .ok (.iconst 1, 1) := by decide +kernel
theorem dX12_go_81 : decode cX12_go 81 = .ok (.if_icmp .ne 17, 3) := by decide +kernel
theorem dX12_go_84 : decode cX12_go 84 = .ok (.aload_n 0, 1) := by decide +kernel
theorem dX12_go_85 : decode cX12_go 85 = .ok (.getfield 23, 3) := by decide +kernel
theorem dX12_go_88 : decode cX12_go 88 = .ok (.aload_n 0, 1) := by decide +kernel
theorem dX12_go_89 : decode cX12_go 89 = .ok (.getfield 205, 3) := by decide +kernel
theorem dX12_go_92 : decode cX12_go 92 = .ok (.bipush (-2), 2) := by decide +kernel
theorem dX12_go_94 : decode cX12_go 94 = .ok (.iastore, 1) := by decide +kernel
theorem dX12_go_95 : decode cX12_go 95 = .ok (.goto 25, 3) := by decide +kernel
theorem dX12_go_98 : decode cX12_go 98 = .ok (.aload_n 0, 1) := by decide +kernel
theorem dX12_go_99 : decode cX12_go 99 = .ok (.dup, 1) := by decide +kernel
theorem dX12_go_100 : decode cX12_go 100 = .ok (.getfield 147, 3) := by decide +kernel
theorem dX12_go_103 : decode cX12_go 103 = .ok (.iconst 1, 1) := by decide +kernel
theorem dX12_go_104 : decode cX12_go 104 = .ok (.iadd, 1) := by decide +kernel
theorem dX12_go_105 : decode cX12_go 105 = .ok (.putfield 147, 3) := by decide +kernel
theorem dX12_go_108 : decode cX12_go 108 = .ok (.aload_n 0, 1) := by decide +kernel
theorem dX12_go_109 : decode cX12_go 109 = .ok (.aload_n 0, 1) := by decide +kernel
theorem dX12_go_110 : decode cX12_go 110 = .ok (.getfield 208, 3) := by decide +kernel
theorem dX12_go_113 : decode cX12_go 113 = .ok (.invokevirtual 256, 3) := by decide +kernel
theorem dX12_go_116 : decode cX12_go 116 = .ok (.aload_n 0, 1) := by decide +kernel
theorem dX12_go_117 : decode cX12_go 117 = .ok (.invokevirtual 144, 3) := by decide +kernel
theorem dX12_go_120 : decode cX12_go 120 = .ok (.return_, 1) := by decide +kernel
theorem dX12_isBehind_0 : decode cX12_isBehind 0 = .ok (.iconst 1, 1) := by decide +kernel
theorem dX12_isBehind_1 : decode cX12_isBehind 1 = .ok (.istore_n 2, 1) := by decide +kernel
theorem dX12_isBehind_2 : decode cX12_isBehind 2 = .ok (.iconst 0, 1) := by decide +kernel
theorem dX12_isBehind_3 : decode cX12_isBehind 3 = .ok (.istore_n 3, 1) := by decide +kernel
theorem dX12_isBehind_4 : decode cX12_isBehind 4 = .ok (.iload_n 3, 1) := by decide +kernel
theorem dX12_isBehind_5 : decode cX12_isBehind 5 = .ok (.iload_n 1, 1) := by decide +kernel
theorem dX12_isBehind_6 : decode cX12_isBehind 6 = .ok (.if_icmp .ge 42, 3) := by decide +kernel
theorem dX12_isBehind_9 : decode cX12_isBehind 9 = .ok (.iload_n 2, 1) := by decide +kernel
theorem dX12_isBehind_10 : decode cX12_isBehind 10 = .ok (.ifCond .eq 30, 3) := by decide +kernel
theorem dX12_isBehind_13 : decode cX12_isBehind 13 = .ok (.aload_n 0, 1) := by decide +kernel
theorem dX12_isBehind_14 : decode cX12_isBehind 14 = .ok (.iload_n 3, 1) := by decide +kernel
theorem dX12_isBehind_15 : decode cX12_isBehind 15 = .ok (.invokevirtual 164, 3) := by decide +kernel
theorem dX12_isBehind_18 : decode cX12_isBehind 18 = .ok (.ifCond .eq 18, 3) := by decide +kernel
theorem dX12_isBehind_21 : decode cX12_isBehind 21 = .ok (.aload_n 0, 1) := by decide +kernel
theorem dX12_isBehind_22 : decode cX12_isBehind 22 = .ok (.getfield 32, 3) := by decide +kernel
theorem dX12_isBehind_25 : decode cX12_isBehind 25 = .ok (.iload_n 3, 1) := by decide +kernel
theorem dX12_isBehind_26 : decode cX12_isBehind 26 = .ok (.iaload, 1) := by decide +kernel
theorem dX12_isBehind_27 : decode cX12_isBehind 27 = .ok (.aload_n 0, 1) := by decide +kernel
theorem dX12_isBehind_28 : decode cX12_isBehind 28 = .ok (.getfield 32, 3) := by decide +kernel
theorem dX12_isBehind_31 : decode cX12_isBehind 31 = .ok (.iload_n 1, 1) := by decide +kernel
theorem dX12_isBehind_32 : decode cX12_isBehind 32 = .ok (.iaload, 1) := by decide +kernel
theorem dX12_isBehind_33 : decode cX12_isBehind 33 = .ok (.if_icmp .eq 7, 3) := by decide +kernel
theorem dX12_isBehind_36 : decode cX12_isBehind 36 = .ok (.iconst 1, 1) := by decide +kernel
theorem dX12_isBehind_37 : decode cX12_isBehind 37 = .ok (.goto 4, 3) := by decide +kernel
theorem dX12_isBehind_40 : decode cX12_isBehind 40 = .ok (.iconst 0, 1) := by decide +kernel
theorem dX12_isBehind_41 : decode cX12_isBehind 41 = .ok (.istore_n 2, 1) := by decide +kernel
theorem dX12_isBehind_42 : decode cX12_isBehind 42 = .ok (.iinc 3 1, 3) := by decide +kernel
theorem dX12_isBehind_45 : decode cX12_isBehind 45 = .ok (.goto (-41), 3) := by decide +kernel
theorem dX12_isBehind_48 : decode cX12_isBehind 48 = .ok (.iload_n 2, 1) := by decide +kernel
theorem dX12_isBehind_49 : decode cX12_isBehind 49 = .ok (.ireturn, 1) := by decide +kernel
theorem dX12_begin_0 : decode cX12_begin 0 = .ok (.aload_n 0, 1) := by decide +kernel
theorem dX12_begin_1 : decode cX12_begin 1 = .ok (.dup, 1) := by decide +kernel
theorem dX12_begin_2 : decode cX12_begin 2 = .ok (.getfield 218, 3) := by decide +kernel
theorem dX12_begin_5 : decode cX12_begin 5 = .ok (.aload_n 0, 1) := by decide +kernel
theorem dX12_begin_6 : decode cX12_begin 6 = .ok (.getfield 130, 3) := by decide +kernel
theorem dX12_begin_9 : decode cX12_begin 9 = .ok (.ifCond .le 19, 3) := by decide +kernel
theorem dX12_begin_12 : decode cX12_begin 12 = .ok (.aload_n 0, 1) := by decide +kernel
theorem dX12_begin_13 : decode cX12_begin 13 = .ok (.getfield 20, 3) := by decide +kernel
theorem dX12_begin_16 : decode cX12_begin 16 = .ok (.aload_n 0, 1) := by decide +kernel
theorem dX12_begin_17 : decode cX12_begin 17 = .ok (.getfield 130, 3) := by decide +kernel
theorem dX12_begin_20 : decode cX12_begin 20 = .ok (.irem, 1) := by decide +kernel
theorem dX12_begin_21 : decode cX12_begin 21 = .ok (.ifCond .ne 7, 3) := by decide +kernel
theorem dX12_begin_24 : decode cX12_begin 24 = .ok (.iconst 1, 1) := by decide +kernel
theorem dX12_begin_25 : decode cX12_begin 25 = .ok (.goto 4, 3) := by decide +kernel
theorem dX12_begin_28 : decode cX12_begin 28 = .ok (.iconst 0, 1) := by decide +kernel
theorem dX12_begin_29 : decode cX12_begin 29 = .ok (.iadd, 1) := by decide +kernel
theorem dX12_begin_30 : decode cX12_begin 30 = .ok (.putfield 218, 3) := by decide +kernel
theorem dX12_begin_33 : decode cX12_begin 33 = .ok (.iconst 0, 1) := by decide +kernel
theorem dX12_begin_34 : decode cX12_begin 34 = .ok (.istore_n 1, 1) := by decide +kernel
theorem dX12_begin_35 : decode cX12_begin 35 = .ok (.iload_n 1, 1) := by decide +kernel
theorem dX12_begin_36 : decode cX12_begin 36 = .ok (.aload_n 0, 1) := by decide +kernel
theorem dX12_begin_37 : decode cX12_begin 37 = .ok (.getfield 141, 3) := by decide +kernel
theorem dX12_begin_40 : decode cX12_begin 40 = .ok (.if_icmp .ge 40, 3) := by decide +kernel
theorem dX12_begin_43 : decode cX12_begin 43 = .ok (.aload_n 0, 1) := by decide +kernel
theorem dX12_begin_44 : decode cX12_begin 44 = .ok (.iload_n 1, 1) := by decide +kernel
theorem dX12_begin_45 : decode cX12_begin 45 = .ok (.invokevirtual 164, 3) := by decide +kernel
theorem dX12_begin_48 : decode cX12_begin 48 = .ok (.ifCond .eq 26, 3) := by decide +kernel
theorem dX12_begin_51 : decode cX12_begin 51 = .ok (.aload_n 0, 1) := by decide +kernel
theorem dX12_begin_52 : decode cX12_begin 52 = .ok (.getfield 29, 3) := by decide +kernel
theorem dX12_begin_55 : decode cX12_begin 55 = .ok (.iload_n 1, 1) := by decide +kernel
theorem dX12_begin_56 : decode cX12_begin 56 = .ok (.iaload, 1) := by decide +kernel
theorem dX12_begin_57 : decode cX12_begin 57 = .ok (.iconst 4, 1) := by decide +kernel
theorem dX12_begin_58 : decode cX12_begin 58 = .ok (.if_icmp .ne 16, 3) := by decide +kernel
theorem dX12_begin_61 : decode cX12_begin 61 = .ok (.aload_n 0, 1) := by decide +kernel
theorem dX12_begin_62 : decode cX12_begin 62 = .ok (.iload_n 1, 1) := by decide +kernel
theorem dX12_begin_63 : decode cX12_begin 63 = .ok (.invokevirtual 259, 3) := by decide +kernel
theorem dX12_begin_66 : decode cX12_begin 66 = .ok (.ifCond .eq 8, 3) := by decide +kernel
theorem dX12_begin_69 : decode cX12_begin 69 = .ok (.aload_n 0, 1) := by decide +kernel
theorem dX12_begin_70 : decode cX12_begin 70 = .ok (.iload_n 1, 1) := by decide +kernel
theorem dX12_begin_71 : decode cX12_begin 71 = .ok (.invokevirtual 237, 3) := by decide +kernel
theorem dX12_begin_74 : decode cX12_begin 74 = .ok (.iinc 1 1, 3) := by decide +kernel
theorem dX12_begin_77 : decode cX12_begin 77 = .ok (.goto (-42), 3) := by decide +kernel
theorem dX12_begin_80 : decode cX12_begin 80 = .ok (.return_, 1) := by decide +kernel
theorem dX12_tick_0 : decode cX12_tick 0 = .ok (.aload_n 0, 1) := by decide +kernel
theorem dX12_tick_1 : decode cX12_tick 1 = .ok (.invokevirtual 262, 3) := by decide +kernel
theorem dX12_tick_4 : decode cX12_tick 4 = .ok (.aload_n 0, 1) := by decide +kernel
theorem dX12_tick_5 : decode cX12_tick 5 = .ok (.invokevirtual 265, 3) := by decide +kernel
theorem dX12_tick_8 : decode cX12_tick 8 = .ok (.aload_n 0, 1) := by decide +kernel
theorem dX12_tick_9 : decode cX12_tick 9 = .ok (.getfield 202, 3) := by decide +kernel
theorem dX12_tick_12 : decode cX12_tick 12 = .ok (.ifCond .lt 7, 3) := by decide +kernel
theorem dX12_tick_15 : decode cX12_tick 15 = .ok (.aload_n 0, 1) := by decide +kernel
theorem dX12_tick_16 : decode cX12_tick 16 = .ok (.invokevirtual 268, 3) := by decide +kernel
theorem dX12_tick_19 : decode cX12_tick 19 = .ok (.aload_n 0, 1) := by decide +kernel
theorem dX12_tick_20 : decode cX12_tick 20 = .ok (.dup, 1) := by decide +kernel
theorem dX12_tick_21 : decode cX12_tick 21 = .ok (.getfield 20, 3) := by decide +kernel
theorem dX12_tick_24 : decode cX12_tick 24 = .ok (.iconst 1, 1) := by decide +kernel
theorem dX12_tick_25 : decode cX12_tick 25 = .ok (.iadd, 1) := by decide +kernel
theorem dX12_tick_26 : decode cX12_tick 26 = .ok (.putfield 20, 3) := by decide +kernel
theorem dX12_tick_29 : decode cX12_tick 29 = .ok (.return_, 1) := by decide +kernel
theorem dX12_run_0 : decode cX12_run 0 = .ok (.aload_n 0, 1) := by decide +kernel
theorem dX12_run_1 : decode cX12_run 1 = .ok (.iconst 0, 1) := by decide +kernel
theorem dX12_run_2 : decode cX12_run 2 = .ok (.putfield 113, 3) := by decide +kernel
theorem dX12_run_5 : decode cX12_run 5 = .ok (.iload_n 1, 1) := by decide +kernel
theorem dX12_run_6 : decode cX12_run 6 = .ok (.i2l, 1) := by decide +kernel
theorem dX12_run_7 : decode cX12_run 7 = .ok (.lconst 1, 1) := by decide +kernel
theorem dX12_run_8 : decode cX12_run 8 = .ok (.ldc2_w 271, 3) := by decide +kernel
theorem dX12_run_11 : decode cX12_run 11 = .ok (.invokestatic 118, 3) := by decide +kernel
theorem dX12_run_14 : decode cX12_run 14 = .ok (.ifCond .ne 5, 3) := by decide +kernel
theorem dX12_run_17 : decode cX12_run 17 = .ok (.iconst (-1), 1) := by decide +kernel
theorem dX12_run_18 : decode cX12_run 18 = .ok (.ireturn, 1) := by decide +kernel
theorem dX12_run_19 : decode cX12_run 19 = .ok (.aload_n 0, 1) := by decide +kernel
theorem dX12_run_20 : decode cX12_run 20 = .ok (.getfield 138, 3) := by decide +kernel
theorem dX12_run_23 : decode cX12_run 23 = .ok (.istore_n 2, 1) := by decide +kernel
theorem dX12_run_24 : decode cX12_run 24 = .ok (.iconst 0, 1) := by decide +kernel
theorem dX12_run_25 : decode cX12_run 25 = .ok (.istore_n 3, 1) := by decide +kernel
theorem dX12_run_26 : decode cX12_run 26 = .ok (.iload_n 3, 1) := by decide +kernel
theorem dX12_run_27 : decode cX12_run 27 = .ok (.iload_n 1, 1) := by decide +kernel
theorem dX12_run_28 : decode cX12_run 28 = .ok (.if_icmp .ge 13, 3) := by decide +kernel
theorem dX12_run_31 : decode cX12_run 31 = .ok (.aload_n 0, 1) := by decide +kernel
theorem dX12_run_32 : decode cX12_run 32 = .ok (.invokevirtual 273, 3) := by decide +kernel
theorem dX12_run_35 : decode cX12_run 35 = .ok (.iinc 3 1, 3) := by decide +kernel
theorem dX12_run_38 : decode cX12_run 38 = .ok (.goto (-12), 3) := by decide +kernel
theorem dX12_run_41 : decode cX12_run 41 = .ok (.iload_n 2, 1) := by decide +kernel
theorem dX12_run_42 : decode cX12_run 42 = .ok (.aload_n 0, 1) := by decide +kernel
theorem dX12_run_43 : decode cX12_run 43 = .ok (.getfield 138, 3) := by decide +kernel
theorem dX12_run_46 : decode cX12_run 46 = .ok (.isub, 1) := by decide +kernel
theorem dX12_run_47 : decode cX12_run 47 = .ok (.ireturn, 1) := by decide +kernel
theorem dX12_drain_0 : decode cX12_drain 0 = .ok (.aload_n 0, 1) := by decide +kernel
theorem dX12_drain_1 : decode cX12_drain 1 = .ok (.iconst 0, 1) := by decide +kernel
theorem dX12_drain_2 : decode cX12_drain 2 = .ok (.putfield 113, 3) := by decide +kernel
theorem dX12_drain_5 : decode cX12_drain 5 = .ok (.iload_n 1, 1) := by decide +kernel
theorem dX12_drain_6 : decode cX12_drain 6 = .ok (.i2l, 1) := by decide +kernel
theorem dX12_drain_7 : decode cX12_drain 7 = .ok (.lconst 1, 1) := by decide +kernel
theorem dX12_drain_8 : decode cX12_drain 8 = .ok (.ldc2_w 271, 3) := by decide +kernel
theorem dX12_drain_11 : decode cX12_drain 11 = .ok (.invokestatic 118, 3) := by decide +kernel
theorem dX12_drain_14 : decode cX12_drain 14 = .ok (.ifCond .ne 5, 3) := by decide +kernel
theorem dX12_drain_17 : decode cX12_drain 17 = .ok (.iconst (-1), 1) := by decide +kernel
theorem dX12_drain_18 : decode cX12_drain 18 = .ok (.ireturn, 1) := by decide +kernel
theorem dX12_drain_19 : decode cX12_drain 19 = .ok (.iconst 0, 1) := by decide +kernel
theorem dX12_drain_20 : decode cX12_drain 20 = .ok (.istore_n 2, 1) := by decide +kernel
theorem dX12_drain_21 : decode cX12_drain 21 = .ok (.iload_n 2, 1) := by decide +kernel
theorem dX12_drain_22 : decode cX12_drain 22 = .ok (.iload_n 1, 1) := by decide +kernel
theorem dX12_drain_23 : decode cX12_drain 23 = .ok (.if_icmp .ge 20, 3) := by decide +kernel
theorem dX12_drain_26 : decode cX12_drain 26 = .ok (.aload_n 0, 1) := by decide +kernel
theorem dX12_drain_27 : decode cX12_drain 27 = .ok (.getfield 138, 3) := by decide +kernel
theorem dX12_drain_30 : decode cX12_drain 30 = .ok (.ifCond .le 13, 3) := by decide +kernel
theorem dX12_drain_33 : decode cX12_drain 33 = .ok (.aload_n 0, 1) := by decide +kernel
theorem dX12_drain_34 : decode cX12_drain 34 = .ok (.invokevirtual 273, 3) := by decide +kernel
theorem dX12_drain_37 : decode cX12_drain 37 = .ok (.iinc 2 1, 3) := by decide +kernel
theorem dX12_drain_40 : decode cX12_drain 40 = .ok (.goto (-19), 3) := by decide +kernel
theorem dX12_drain_43 : decode cX12_drain 43 = .ok (.iload_n 2, 1) := by decide +kernel
theorem dX12_drain_44 : decode cX12_drain 44 = .ok (.ireturn, 1) := by decide +kernel
theorem dX12_next_0 : decode cX12_next 0 = .ok (.aload_n 0, 1) := by decide +kernel
theorem dX12_next_1 : decode cX12_next 1 = .ok (.iconst 0, 1) := by decide +kernel
theorem dX12_next_2 : decode cX12_next 2 = .ok (.putfield 113, 3) := by decide +kernel
theorem dX12_next_5 : decode cX12_next 5 = .ok (.aload_n 0, 1) := by decide +kernel
theorem dX12_next_6 : decode cX12_next 6 = .ok (.getfield 218, 3) := by decide +kernel
theorem dX12_next_9 : decode cX12_next 9 = .ok (.istore_n 1, 1) := by decide +kernel
theorem dX12_next_10 : decode cX12_next 10 = .ok (.aload_n 0, 1) := by decide +kernel
theorem dX12_next_11 : decode cX12_next 11 = .ok (.getfield 138, 3) := by decide +kernel
theorem dX12_next_14 : decode cX12_next 14 = .ok (.istore_n 2, 1) := by decide +kernel
theorem dX12_next_15 : decode cX12_next 15 = .ok (.iconst 0, 1) := by decide +kernel
theorem dX12_next_16 : decode cX12_next 16 = .ok (.istore_n 3, 1) := by decide +kernel
theorem dX12_next_17 : decode cX12_next 17 = .ok (.iload_n 3, 1) := by decide +kernel
theorem dX12_next_18 : decode cX12_next 18 = .ok (.aload_n 0, 1) := by decide +kernel
theorem dX12_next_19 : decode cX12_next 19 = .ok (.getfield 141, 3) := by decide +kernel
theorem dX12_next_22 : decode cX12_next 22 = .ok (.if_icmp .ge 21, 3) := by decide +kernel
theorem dX12_next_25 : decode cX12_next 25 = .ok (.aload_n 0, 1) := by decide +kernel
theorem dX12_next_26 : decode cX12_next 26 = .ok (.getfield 92, 3) := by decide +kernel
theorem dX12_next_29 : decode cX12_next 29 = .ok (.iload_n 3, 1) := by decide +kernel
theorem dX12_next_30 : decode cX12_next 30 = .ok (.aload_n 0, 1) := by decide +kernel
theorem dX12_next_31 : decode cX12_next 31 = .ok (.getfield 47, 3) := by decide +kernel
theorem dX12_next_34 : decode cX12_next 34 = .ok (.iload_n 3, 1) := by decide +kernel
theorem dX12_next_35 : decode cX12_next 35 = .ok (.iaload, 1) := by decide +kernel
theorem dX12_next_36 : decode cX12_next 36 = .ok (.iastore, 1) := by decide +kernel
theorem dX12_next_37 : decode cX12_next 37 = .ok (.iinc 3 1, 3) := by decide +kernel
theorem dX12_next_40 : decode cX12_next 40 = .ok (.goto (-23), 3) := by decide +kernel
theorem dX12_next_43 : decode cX12_next 43 = .ok (.aload_n 0, 1) := by decide +kernel
theorem dX12_next_44 : decode cX12_next 44 = .ok (.invokevirtual 262, 3) := by decide +kernel
theorem dX12_next_47 : decode cX12_next 47 = .ok (.aload_n 0, 1) := by decide +kernel
theorem dX12_next_48 : decode cX12_next 48 = .ok (.invokevirtual 265, 3) := by decide +kernel
theorem dX12_next_51 : decode cX12_next 51 = .ok (.iconst 0, 1) := by decide +kernel
theorem dX12_next_52 : decode cX12_next 52 = .ok (.istore_n 3, 1) := by decide +kernel
theorem dX12_next_53 : decode cX12_next 53 = .ok (.iload_n 3, 1) := by decide +kernel
theorem dX12_next_54 : decode cX12_next 54 = .ok (.aload_n 0, 1) := by decide +kernel
theorem dX12_next_55 : decode cX12_next 55 = .ok (.getfield 141, 3) := by decide +kernel
theorem dX12_next_58 : decode cX12_next 58 = .ok (.if_icmp .ge 21, 3) := by decide +kernel
theorem dX12_next_61 : decode cX12_next 61 = .ok (.aload_n 0, 1) := by decide +kernel
theorem dX12_next_62 : decode cX12_next 62 = .ok (.getfield 47, 3) := by decide +kernel
theorem dX12_next_65 : decode cX12_next 65 = .ok (.iload_n 3, 1) := by decide +kernel
theorem dX12_next_66 : decode cX12_next 66 = .ok (.aload_n 0, 1) := by decide +kernel
theorem dX12_next_67 : decode cX12_next 67 = .ok (.getfield 92, 3) := by decide +kernel
theorem dX12_next_70 : decode cX12_next 70 = .ok (.iload_n 3, 1) := by decide +kernel
theorem dX12_next_71 : decode cX12_next 71 = .ok (.iaload, 1) := by decide +kernel
theorem dX12_next_72 : decode cX12_next 72 = .ok (.iastore, 1) := by decide +kernel
theorem dX12_next_73 : decode cX12_next 73 = .ok (.iinc 3 1, 3) := by decide +kernel
theorem dX12_next_76 : decode cX12_next 76 = .ok (.goto (-23), 3) := by decide +kernel
theorem dX12_next_79 : decode cX12_next 79 = .ok (.aload_n 0, 1) := by decide +kernel
theorem dX12_next_80 : decode cX12_next 80 = .ok (.iload_n 1, 1) := by decide +kernel
theorem dX12_next_81 : decode cX12_next 81 = .ok (.putfield 218, 3) := by decide +kernel
theorem dX12_next_84 : decode cX12_next 84 = .ok (.aload_n 0, 1) := by decide +kernel
theorem dX12_next_85 : decode cX12_next 85 = .ok (.iload_n 2, 1) := by decide +kernel
theorem dX12_next_86 : decode cX12_next 86 = .ok (.putfield 138, 3) := by decide +kernel
theorem dX12_next_89 : decode cX12_next 89 = .ok (.aload_n 0, 1) := by decide +kernel
theorem dX12_next_90 : decode cX12_next 90 = .ok (.getfield 202, 3) := by decide +kernel
theorem dX12_next_93 : decode cX12_next 93 = .ok (.ireturn, 1) := by decide +kernel
theorem dX12_isAsk_0 : decode cX12_isAsk 0 = .ok (.iload_n 1, 1) := by decide +kernel
theorem dX12_isAsk_1 : decode cX12_isAsk 1 = .ok (.ifCond .lt 15, 3) := by decide +kernel
theorem dX12_isAsk_4 : decode cX12_isAsk 4 = .ok (.iload_n 1, 1) := by decide +kernel
theorem dX12_isAsk_5 : decode cX12_isAsk 5 = .ok (.aload_n 0, 1) := by decide +kernel
theorem dX12_isAsk_6 : decode cX12_isAsk 6 = .ok (.getfield 141, 3) := by decide +kernel
theorem dX12_isAsk_9 : decode cX12_isAsk 9 = .ok (.if_icmp .ge 7, 3) := by decide +kernel
theorem dX12_isAsk_12 : decode cX12_isAsk 12 = .ok (.iconst 1, 1) := by decide +kernel
theorem dX12_isAsk_13 : decode cX12_isAsk 13 = .ok (.goto 4, 3) := by decide +kernel
theorem dX12_isAsk_16 : decode cX12_isAsk 16 = .ok (.iconst 0, 1) := by decide +kernel
theorem dX12_isAsk_17 : decode cX12_isAsk 17 = .ok (.ireturn, 1) := by decide +kernel
theorem dX12_look_0 : decode cX12_look 0 = .ok (.aload_n 0, 1) := by decide +kernel
theorem dX12_look_1 : decode cX12_look 1 = .ok (.iconst 0, 1) := by decide +kernel
theorem dX12_look_2 : decode cX12_look 2 = .ok (.putfield 113, 3) := by decide +kernel
theorem dX12_look_5 : decode cX12_look 5 = .ok (.aload_n 0, 1) := by decide +kernel
theorem dX12_look_6 : decode cX12_look 6 = .ok (.iload_n 1, 1) := by decide +kernel
theorem dX12_look_7 : decode cX12_look 7 = .ok (.invokevirtual 276, 3) := by decide +kernel
theorem dX12_look_10 : decode cX12_look 10 = .ok (.ifCond .eq 15, 3) := by decide +kernel
theorem dX12_look_13 : decode cX12_look 13 = .ok (.iload_n 2, 1) := by decide +kernel
theorem dX12_look_14 : decode cX12_look 14 = .ok (.i2l, 1) := by decide +kernel
theorem dX12_look_15 : decode cX12_look 15 = .ok (.lconst 0, 1) := by decide +kernel
theorem dX12_look_16 : decode cX12_look 16 = .ok (.ldc2_w 279, 3) := by decide +kernel
theorem dX12_look_19 : decode cX12_look 19 = .ok (.invokestatic 118, 3) := by decide +kernel
theorem dX12_look_22 : decode cX12_look 22 = .ok (.ifCond .ne 5, 3) := by decide +kernel
theorem dX12_look_25 : decode cX12_look 25 = .ok (.iconst (-1), 1) := by decide +kernel
theorem dX12_look_26 : decode cX12_look 26 = .ok (.ireturn, 1) := by decide +kernel
theorem dX12_look_27 : decode cX12_look 27 = .ok (.iload_n 2, 1) := by decide +kernel
theorem dX12_look_28 : decode cX12_look 28 = .ok (.tableswitch 82 0 5 #[40, 47, 54, 61, 68, 75], 40) := by decide +kernel
theorem dX12_look_68 : decode cX12_look 68 = .ok (.aload_n 0, 1) := by decide +kernel
theorem dX12_look_69 : decode cX12_look 69 = .ok (.getfield 29, 3) := by decide +kernel
theorem dX12_look_72 : decode cX12_look 72 = .ok (.iload_n 1, 1) := by decide +kernel
theorem dX12_look_73 : decode cX12_look 73 = .ok (.iaload, 1) := by decide +kernel
theorem dX12_look_74 : decode cX12_look 74 = .ok (.ireturn, 1) := by decide +kernel
theorem dX12_look_75 : decode cX12_look 75 = .ok (.aload_n 0, 1) := by decide +kernel
theorem dX12_look_76 : decode cX12_look 76 = .ok (.getfield 32, 3) := by decide +kernel
theorem dX12_look_79 : decode cX12_look 79 = .ok (.iload_n 1, 1) := by decide +kernel
theorem dX12_look_80 : decode cX12_look 80 = .ok (.iaload, 1) := by decide +kernel
theorem dX12_look_81 : decode cX12_look 81 = .ok (.ireturn, 1) := by decide +kernel
theorem dX12_look_82 : decode cX12_look 82 = .ok (.aload_n 0, 1) := by decide +kernel
theorem dX12_look_83 : decode cX12_look 83 = .ok (.getfield 35, 3) := by decide +kernel
theorem dX12_look_86 : decode cX12_look 86 = .ok (.iload_n 1, 1) := by decide +kernel
theorem dX12_look_87 : decode cX12_look 87 = .ok (.iaload, 1) := by decide +kernel
theorem dX12_look_88 : decode cX12_look 88 = .ok (.ireturn, 1) := by decide +kernel
theorem dX12_look_89 : decode cX12_look 89 = .ok (.aload_n 0, 1) := by decide +kernel
theorem dX12_look_90 : decode cX12_look 90 = .ok (.getfield 44, 3) := by decide +kernel
theorem dX12_look_93 : decode cX12_look 93 = .ok (.iload_n 1, 1) := by decide +kernel
theorem dX12_look_94 : decode cX12_look 94 = .ok (.iaload, 1) := by decide +kernel
theorem dX12_look_95 : decode cX12_look 95 = .ok (.ireturn, 1) := by decide +kernel
theorem dX12_look_96 : decode cX12_look 96 = .ok (.aload_n 0, 1) := by decide +kernel
theorem dX12_look_97 : decode cX12_look 97 = .ok (.getfield 47, 3) := by decide +kernel
theorem dX12_look_100 : decode cX12_look 100 = .ok (.iload_n 1, 1) := by decide +kernel
theorem dX12_look_101 : decode cX12_look 101 = .ok (.iaload, 1) := by decide +kernel
theorem dX12_look_102 : decode cX12_look 102 = .ok (.ireturn, 1) := by decide +kernel
theorem dX12_look_103 : decode cX12_look 103 = .ok (.aload_n 0, 1) := by decide +kernel
theorem dX12_look_104 : decode cX12_look 104 = .ok (.getfield 50, 3) := by decide +kernel
theorem dX12_look_107 : decode cX12_look 107 = .ok (.iload_n 1, 1) := by decide +kernel
theorem dX12_look_108 : decode cX12_look 108 = .ok (.iaload, 1) := by decide +kernel
theorem dX12_look_109 : decode cX12_look 109 = .ok (.ireturn, 1) := by decide +kernel
theorem dX12_look_110 : decode cX12_look 110 = .ok (.aload_n 0, 1) := by decide +kernel
theorem dX12_look_111 : decode cX12_look 111 = .ok (.iload_n 1, 1) := by decide +kernel
theorem dX12_look_112 : decode cX12_look 112 = .ok (.invokevirtual 211, 3) := by decide +kernel
theorem dX12_look_115 : decode cX12_look 115 = .ok (.ifCond .eq 7, 3) := by decide +kernel
theorem dX12_look_118 : decode cX12_look 118 = .ok (.iconst 1, 1) := by decide +kernel
theorem dX12_look_119 : decode cX12_look 119 = .ok (.goto 4, 3) := by decide +kernel
theorem dX12_look_122 : decode cX12_look 122 = .ok (.iconst 0, 1) := by decide +kernel
theorem dX12_look_123 : decode cX12_look 123 = .ok (.ireturn, 1) := by decide +kernel
theorem dX12_at_0 : decode cX12_at 0 = .ok (.aload_n 0, 1) := by decide +kernel
theorem dX12_at_1 : decode cX12_at 1 = .ok (.iconst 0, 1) := by decide +kernel
theorem dX12_at_2 : decode cX12_at 2 = .ok (.putfield 113, 3) := by decide +kernel
theorem dX12_at_5 : decode cX12_at 5 = .ok (.iload_n 1, 1) := by decide +kernel
theorem dX12_at_6 : decode cX12_at 6 = .ok (.ifCond .ge 5, 3) := by decide +kernel
theorem dX12_at_9 : decode cX12_at 9 = .ok (.iconst (-1), 1) := by decide +kernel
theorem dX12_at_10 : decode cX12_at 10 = .ok (.ireturn, 1) := by decide +kernel
theorem dX12_at_11 : decode cX12_at 11 = .ok (.aload_n 0, 1) := by decide +kernel
theorem dX12_at_12 : decode cX12_at 12 = .ok (.invokevirtual 228, 3) := by decide +kernel
theorem dX12_at_15 : decode cX12_at 15 = .ok (.iload_n 1, 1) := by decide +kernel
theorem dX12_at_16 : decode cX12_at 16 = .ok (.aload_n 0, 1) := by decide +kernel
theorem dX12_at_17 : decode cX12_at 17 = .ok (.getfield 178, 3) := by decide +kernel
theorem dX12_at_20 : decode cX12_at 20 = .ok (.if_icmp .ge 12, 3) := by decide +kernel
theorem dX12_at_23 : decode cX12_at 23 = .ok (.aload_n 0, 1) := by decide +kernel
theorem dX12_at_24 : decode cX12_at 24 = .ok (.getfield 89, 3) := by decide +kernel
theorem dX12_at_27 : decode cX12_at 27 = .ok (.iload_n 1, 1) := by decide +kernel
theorem dX12_at_28 : decode cX12_at 28 = .ok (.iaload, 1) := by decide +kernel
theorem dX12_at_29 : decode cX12_at 29 = .ok (.goto 5, 3) := by decide +kernel
theorem dX12_at_32 : decode cX12_at 32 = .ok (.bipush (-2), 2) := by decide +kernel
theorem dX12_at_34 : decode cX12_at 34 = .ok (.ireturn, 1) := by decide +kernel
theorem dX12_soonest_0 : decode cX12_soonest 0 = .ok (.aload_n 0, 1) := by decide +kernel
theorem dX12_soonest_1 : decode cX12_soonest 1 = .ok (.iconst 0, 1) := by decide +kernel
theorem dX12_soonest_2 : decode cX12_soonest 2 = .ok (.putfield 113, 3) := by decide +kernel
theorem dX12_soonest_5 : decode cX12_soonest 5 = .ok (.iload_n 1, 1) := by decide +kernel
theorem dX12_soonest_6 : decode cX12_soonest 6 = .ok (.i2l, 1) := by decide +kernel
theorem dX12_soonest_7 : decode cX12_soonest 7 = .ok (.lconst 0, 1) := by decide +kernel
theorem dX12_soonest_8 : decode cX12_soonest 8 = .ok (.ldc2_w 281, 3) := by decide +kernel
theorem dX12_soonest_11 : decode cX12_soonest 11 = .ok (.invokestatic 118, 3) := by decide +kernel
theorem dX12_soonest_14 : decode cX12_soonest 14 = .ok (.ifCond .eq 20, 3) := by decide +kernel
theorem dX12_soonest_17 : decode cX12_soonest 17 = .ok (.iload_n 1, 1) := by decide +kernel
theorem dX12_soonest_18 : decode cX12_soonest 18 = .ok (.iconst 4, 1) := by decide +kernel
theorem dX12_soonest_19 : decode cX12_soonest 19 = .ok (.if_icmp .ge 17, 3) := by decide +kernel
theorem dX12_soonest_22 : decode cX12_soonest 22 = .ok (.iload_n 2, 1) := by decide +kernel
theorem dX12_soonest_23 : decode cX12_soonest 23 = .ok (.i2l, 1) := by decide +kernel
theorem dX12_soonest_24 : decode cX12_soonest 24 = .ok (.lconst 0, 1) := by decide +kernel
theorem dX12_soonest_25 : decode cX12_soonest 25 = .ok (.ldc2_w 150, 3) := by decide +kernel
theorem dX12_soonest_28 : decode cX12_soonest 28 = .ok (.invokestatic 118, 3) := by decide +kernel
theorem dX12_soonest_31 : decode cX12_soonest 31 = .ok (.ifCond .ne 5, 3) := by decide +kernel
theorem dX12_soonest_34 : decode cX12_soonest 34 = .ok (.iconst (-1), 1) := by decide +kernel
theorem dX12_soonest_35 : decode cX12_soonest 35 = .ok (.ireturn, 1) := by decide +kernel
theorem dX12_soonest_36 : decode cX12_soonest 36 = .ok (.aload_n 0, 1) := by decide +kernel
theorem dX12_soonest_37 : decode cX12_soonest 37 = .ok (.iload_n 1, 1) := by decide +kernel
theorem dX12_soonest_38 : decode cX12_soonest 38 = .ok (.iload_n 2, 1) := by decide +kernel
theorem dX12_soonest_39 : decode cX12_soonest 39 = .ok (.invokevirtual 194, 3) := by decide +kernel
theorem dX12_soonest_42 : decode cX12_soonest 42 = .ok (.ifCond .ne 6, 3) := by decide +kernel
theorem dX12_soonest_45 : decode cX12_soonest 45 = .ok (.bipush (-2), 2) := by decide +kernel
theorem dX12_soonest_47 : decode cX12_soonest 47 = .ok (.ireturn, 1) := by decide +kernel
theorem dX12_soonest_48 : decode cX12_soonest 48 = .ok (.aload_n 0, 1) := by decide +kernel
theorem dX12_soonest_49 : decode cX12_soonest 49 = .ok (.getfield 20, 3) := by decide +kernel
theorem dX12_soonest_52 : decode cX12_soonest 52 = .ok (.istore_n 3, 1) := by decide +kernel
theorem dX12_soonest_53 : decode cX12_soonest 53 = .ok (.aload_n 0, 1) := by decide +kernel
theorem dX12_soonest_54 : decode cX12_soonest 54 = .ok (.iload_n 1, 1) := by decide +kernel
theorem dX12_soonest_55 : decode cX12_soonest 55 = .ok (.iload_n 1, 1) := by decide +kernel
theorem dX12_soonest_56 : decode cX12_soonest 56 = .ok (.iconst 4, 1) := by decide +kernel
theorem dX12_soonest_57 : decode cX12_soonest 57 = .ok (.if_icmp .ne 8, 3) := by decide +kernel
theorem dX12_soonest_60 : decode cX12_soonest 60 = .ok (.bipush (-2), 2) := by decide +kernel
theorem dX12_soonest_62 : decode cX12_soonest 62 = .ok (.goto 4, 3) := by decide +kernel
theorem dX12_soonest_65 : decode cX12_soonest 65 = .ok (.iload_n 2, 1) := by decide +kernel
theorem dX12_soonest_66 : decode cX12_soonest 66 = .ok (.iload_n 3, 1) := by decide +kernel
theorem dX12_soonest_67 : decode cX12_soonest 67 = .ok (.invokevirtual 198, 3) := by decide +kernel
theorem dX12_soonest_70 : decode cX12_soonest 70 = .ok (.ifCond .ne 9, 3) := by decide +kernel
theorem dX12_soonest_73 : decode cX12_soonest 73 = .ok (.iinc 3 1, 3) := by decide +kernel
theorem dX12_soonest_76 : decode cX12_soonest 76 = .ok (.goto (-23), 3) := by decide +kernel
theorem dX12_soonest_79 : decode cX12_soonest 79 = .ok (.iload_n 3, 1) := by decide +kernel
theorem dX12_soonest_80 : decode cX12_soonest 80 = .ok (.ireturn, 1) := by decide +kernel
theorem dX12_row_0 : decode cX12_row 0 = .ok (.aload_n 0, 1) := by decide +kernel
theorem dX12_row_1 : decode cX12_row 1 = .ok (.iconst 0, 1) := by decide +kernel
theorem dX12_row_2 : decode cX12_row 2 = .ok (.putfield 113, 3) := by decide +kernel
theorem dX12_row_5 : decode cX12_row 5 = .ok (.iload_n 1, 1) := by decide +kernel
theorem dX12_row_6 : decode cX12_row 6 = .ok (.i2l, 1) := by decide +kernel
theorem dX12_row_7 : decode cX12_row 7 = .ok (.lconst 0, 1) := by decide +kernel
theorem dX12_row_8 : decode cX12_row 8 = .ok (.ldc2_w 150, 3) := by decide +kernel
theorem dX12_row_11 : decode cX12_row 11 = .ok (.invokestatic 118, 3) := by decide +kernel
theorem dX12_row_14 : decode cX12_row 14 = .ok (.ifCond .eq 12, 3) := by decide +kernel
theorem dX12_row_17 : decode cX12_row 17 = .ok (.aload_n 0, 1) := by decide +kernel
theorem dX12_row_18 : decode cX12_row 18 = .ok (.getfield 23, 3) := by decide +kernel
theorem dX12_row_21 : decode cX12_row 21 = .ok (.iload_n 1, 1) := by decide +kernel
theorem dX12_row_22 : decode cX12_row 22 = .ok (.iaload, 1) := by decide +kernel
theorem dX12_row_23 : decode cX12_row 23 = .ok (.goto 4, 3) := by decide +kernel
theorem dX12_row_26 : decode cX12_row 26 = .ok (.iconst (-1), 1) := by decide +kernel
theorem dX12_row_27 : decode cX12_row 27 = .ok (.ireturn, 1) := by decide +kernel
theorem dX12_octet_0 : decode cX12_octet 0 = .ok (.aload_n 0, 1) := by decide +kernel
theorem dX12_octet_1 : decode cX12_octet 1 = .ok (.iconst 0, 1) := by decide +kernel
theorem dX12_octet_2 : decode cX12_octet 2 = .ok (.putfield 113, 3) := by decide +kernel
theorem dX12_octet_5 : decode cX12_octet 5 = .ok (.iload_n 1, 1) := by decide +kernel
theorem dX12_octet_6 : decode cX12_octet 6 = .ok (.i2l, 1) := by decide +kernel
theorem dX12_octet_7 : decode cX12_octet 7 = .ok (.lconst 0, 1) := by decide +kernel
theorem dX12_octet_8 : decode cX12_octet 8 = .ok (.ldc2_w 152, 3) := by decide +kernel
theorem dX12_octet_11 : decode cX12_octet 11 = .ok (.invokestatic 118, 3) := by decide +kernel
theorem dX12_octet_14 : decode cX12_octet 14 = .ok (.ifCond .eq 12, 3) := by decide +kernel
theorem dX12_octet_17 : decode cX12_octet 17 = .ok (.aload_n 0, 1) := by decide +kernel
theorem dX12_octet_18 : decode cX12_octet 18 = .ok (.getfield 26, 3) := by decide +kernel
theorem dX12_octet_21 : decode cX12_octet 21 = .ok (.iload_n 1, 1) := by decide +kernel
theorem dX12_octet_22 : decode cX12_octet 22 = .ok (.iaload, 1) := by decide +kernel
theorem dX12_octet_23 : decode cX12_octet 23 = .ok (.goto 4, 3) := by decide +kernel
theorem dX12_octet_26 : decode cX12_octet 26 = .ok (.iconst (-1), 1) := by decide +kernel
theorem dX12_octet_27 : decode cX12_octet 27 = .ok (.ireturn, 1) := by decide +kernel
theorem dX12_isLogged_0 : decode cX12_isLogged 0 = .ok (.iload_n 1, 1) := by decide +kernel
theorem dX12_isLogged_1 : decode cX12_isLogged 1 = .ok (.ifCond .lt 15, 3) := by decide +kernel
theorem dX12_isLogged_4 : decode cX12_isLogged 4 = .ok (.iload_n 1, 1) := by decide +kernel
theorem dX12_isLogged_5 : decode cX12_isLogged 5 = .ok (.aload_n 0, 1) := by decide +kernel
theorem dX12_isLogged_6 : decode cX12_isLogged 6 = .ok (.getfield 241, 3) := by decide +kernel
theorem dX12_isLogged_9 : decode cX12_isLogged 9 = .ok (.if_icmp .ge 7, 3) := by decide +kernel
theorem dX12_isLogged_12 : decode cX12_isLogged 12 = .ok (.iconst 1, 1) := by decide +kernel
theorem dX12_isLogged_13 : decode cX12_isLogged 13 = .ok (.goto 4, 3) := by decide +kernel
theorem dX12_isLogged_16 : decode cX12_isLogged 16 = .ok (.iconst 0, 1) := by decide +kernel
theorem dX12_isLogged_17 : decode cX12_isLogged 17 = .ok (.ireturn, 1) := by decide +kernel
theorem dX12_log_0 : decode cX12_log 0 = .ok (.aload_n 0, 1) := by decide +kernel
theorem dX12_log_1 : decode cX12_log 1 = .ok (.iconst 0, 1) := by decide +kernel
theorem dX12_log_2 : decode cX12_log 2 = .ok (.putfield 113, 3) := by decide +kernel
theorem dX12_log_5 : decode cX12_log 5 = .ok (.aload_n 0, 1) := by decide +kernel
theorem dX12_log_6 : decode cX12_log 6 = .ok (.iload_n 1, 1) := by decide +kernel
theorem dX12_log_7 : decode cX12_log 7 = .ok (.invokevirtual 283, 3) := by decide +kernel
theorem dX12_log_10 : decode cX12_log 10 = .ok (.ifCond .eq 15, 3) := by decide +kernel
theorem dX12_log_13 : decode cX12_log 13 = .ok (.iload_n 2, 1) := by decide +kernel
theorem dX12_log_14 : decode cX12_log 14 = .ok (.i2l, 1) := by decide +kernel
theorem dX12_log_15 : decode cX12_log 15 = .ok (.lconst 0, 1) := by decide +kernel
theorem dX12_log_16 : decode cX12_log 16 = .ok (.ldc2_w 281, 3) := by decide +kernel
theorem dX12_log_19 : decode cX12_log 19 = .ok (.invokestatic 118, 3) := by decide +kernel
theorem dX12_log_22 : decode cX12_log 22 = .ok (.ifCond .ne 5, 3) := by decide +kernel
theorem dX12_log_25 : decode cX12_log 25 = .ok (.iconst (-1), 1) := by decide +kernel
theorem dX12_log_26 : decode cX12_log 26 = .ok (.ireturn, 1) := by decide +kernel
theorem dX12_log_27 : decode cX12_log 27 = .ok (.iload_n 2, 1) := by decide +kernel
theorem dX12_log_28 : decode cX12_log 28 = .ok (.ifCond .ne 12, 3) := by decide +kernel
theorem dX12_log_31 : decode cX12_log 31 = .ok (.aload_n 0, 1) := by decide +kernel
theorem dX12_log_32 : decode cX12_log 32 = .ok (.getfield 68, 3) := by decide +kernel
theorem dX12_log_35 : decode cX12_log 35 = .ok (.iload_n 1, 1) := by decide +kernel
theorem dX12_log_36 : decode cX12_log 36 = .ok (.iaload, 1) := by decide +kernel
theorem dX12_log_37 : decode cX12_log 37 = .ok (.goto 51, 3) := by decide +kernel
theorem dX12_log_40 : decode cX12_log 40 = .ok (.iload_n 2, 1) := by decide +kernel
theorem dX12_log_41 : decode cX12_log 41 = .ok (.iconst 1, 1) := by decide +kernel
theorem dX12_log_42 : decode cX12_log 42 = .ok (.if_icmp .ne 12, 3) := by decide +kernel
theorem dX12_log_45 : decode cX12_log 45 = .ok (.aload_n 0, 1) := by decide +kernel
theorem dX12_log_46 : decode cX12_log 46 = .ok (.getfield 74, 3) := by decide +kernel
theorem dX12_log_49 : decode cX12_log 49 = .ok (.iload_n 1, 1) := by decide +kernel
theorem dX12_log_50 : decode cX12_log 50 = .ok (.iaload, 1) := by decide +kernel
theorem dX12_log_51 : decode cX12_log 51 = .ok (.goto 37, 3) := by decide +kernel
theorem dX12_log_54 : decode cX12_log 54 = .ok (.iload_n 2, 1) := by decide +kernel
theorem dX12_log_55 : decode cX12_log 55 = .ok (.iconst 2, 1) := by decide +kernel
theorem dX12_log_56 : decode cX12_log 56 = .ok (.if_icmp .ne 12, 3) := by decide +kernel
theorem dX12_log_59 : decode cX12_log 59 = .ok (.aload_n 0, 1) := by decide +kernel
theorem dX12_log_60 : decode cX12_log 60 = .ok (.getfield 77, 3) := by decide +kernel
theorem dX12_log_63 : decode cX12_log 63 = .ok (.iload_n 1, 1) := by decide +kernel
theorem dX12_log_64 : decode cX12_log 64 = .ok (.iaload, 1) := by decide +kernel
theorem dX12_log_65 : decode cX12_log 65 = .ok (.goto 23, 3) := by decide +kernel
theorem dX12_log_68 : decode cX12_log 68 = .ok (.iload_n 2, 1) := by decide +kernel
theorem dX12_log_69 : decode cX12_log 69 = .ok (.iconst 3, 1) := by decide +kernel
theorem dX12_log_70 : decode cX12_log 70 = .ok (.if_icmp .ne 12, 3) := by decide +kernel
theorem dX12_log_73 : decode cX12_log 73 = .ok (.aload_n 0, 1) := by decide +kernel
theorem dX12_log_74 : decode cX12_log 74 = .ok (.getfield 80, 3) := by decide +kernel
theorem dX12_log_77 : decode cX12_log 77 = .ok (.iload_n 1, 1) := by decide +kernel
theorem dX12_log_78 : decode cX12_log 78 = .ok (.iaload, 1) := by decide +kernel
theorem dX12_log_79 : decode cX12_log 79 = .ok (.goto 9, 3) := by decide +kernel
theorem dX12_log_82 : decode cX12_log 82 = .ok (.aload_n 0, 1) := by decide +kernel
theorem dX12_log_83 : decode cX12_log 83 = .ok (.getfield 83, 3) := by decide +kernel
theorem dX12_log_86 : decode cX12_log 86 = .ok (.iload_n 1, 1) := by decide +kernel
theorem dX12_log_87 : decode cX12_log 87 = .ok (.iaload, 1) := by decide +kernel
theorem dX12_log_88 : decode cX12_log 88 = .ok (.ireturn, 1) := by decide +kernel
theorem dX12_forge_0 : decode cX12_forge 0 = .ok (.aload_n 0, 1) := by decide +kernel
theorem dX12_forge_1 : decode cX12_forge 1 = .ok (.iconst 0, 1) := by decide +kernel
theorem dX12_forge_2 : decode cX12_forge 2 = .ok (.putfield 113, 3) := by decide +kernel
theorem dX12_forge_5 : decode cX12_forge 5 = .ok (.aload_n 0, 1) := by decide +kernel
theorem dX12_forge_6 : decode cX12_forge 6 = .ok (.iload_n 1, 1) := by decide +kernel
theorem dX12_forge_7 : decode cX12_forge 7 = .ok (.invokevirtual 283, 3) := by decide +kernel
theorem dX12_forge_10 : decode cX12_forge 10 = .ok (.ifCond .eq 15, 3) := by decide +kernel
theorem dX12_forge_13 : decode cX12_forge 13 = .ok (.iload_n 2, 1) := by decide +kernel
theorem dX12_forge_14 : decode cX12_forge 14 = .ok (.i2l, 1) := by decide +kernel
theorem dX12_forge_15 : decode cX12_forge 15 = .ok (.lconst 1, 1) := by decide +kernel
theorem dX12_forge_16 : decode cX12_forge 16 = .ok (.ldc2_w 286, 3) := by decide +kernel
theorem dX12_forge_19 : decode cX12_forge 19 = .ok (.invokestatic 118, 3) := by decide +kernel
theorem dX12_forge_22 : decode cX12_forge 22 = .ok (.ifCond .ne 5, 3) := by decide +kernel
theorem dX12_forge_25 : decode cX12_forge 25 = .ok (.iconst (-1), 1) := by decide +kernel
theorem dX12_forge_26 : decode cX12_forge 26 = .ok (.ireturn, 1) := by decide +kernel
theorem dX12_forge_27 : decode cX12_forge 27 = .ok (.aload_n 0, 1) := by decide +kernel
theorem dX12_forge_28 : decode cX12_forge 28 = .ok (.getfield 71, 3) := by decide +kernel
theorem dX12_forge_31 : decode cX12_forge 31 = .ok (.iload_n 1, 1) := by decide +kernel
theorem dX12_forge_32 : decode cX12_forge 32 = .ok (.iaload, 1) := by decide +kernel
theorem dX12_forge_33 : decode cX12_forge 33 = .ok (.istore_n 3, 1) := by decide +kernel
theorem dX12_forge_34 : decode cX12_forge 34 = .ok (.aload_n 0, 1) := by decide +kernel
theorem dX12_forge_35 : decode cX12_forge 35 = .ok (.getfield 71, 3) := by decide +kernel
theorem dX12_forge_38 : decode cX12_forge 38 = .ok (.iload_n 1, 1) := by decide +kernel
theorem dX12_forge_39 : decode cX12_forge 39 = .ok (.iload_n 2, 1) := by decide +kernel
theorem dX12_forge_40 : decode cX12_forge 40 = .ok (.iastore, 1) := by decide +kernel
theorem dX12_forge_41 : decode cX12_forge 41 = .ok (.iload_n 3, 1) := by decide +kernel
theorem dX12_forge_42 : decode cX12_forge 42 = .ok (.ireturn, 1) := by decide +kernel
theorem dX12_breaks_0 : decode cX12_breaks 0 = .ok (.bipush (-2), 2) := by decide +kernel
theorem dX12_breaks_2 : decode cX12_breaks 2 = .ok (.istore_n 2, 1) := by decide +kernel
theorem dX12_breaks_3 : decode cX12_breaks 3 = .ok (.iconst 0, 1) := by decide +kernel
theorem dX12_breaks_4 : decode cX12_breaks 4 = .ok (.istore_n 3, 1) := by decide +kernel
theorem dX12_breaks_5 : decode cX12_breaks 5 = .ok (.iload_n 1, 1) := by decide +kernel
theorem dX12_breaks_6 : decode cX12_breaks 6 = .ok (.iconst 1, 1) := by decide +kernel
theorem dX12_breaks_7 : decode cX12_breaks 7 = .ok (.isub, 1) := by decide +kernel
theorem dX12_breaks_8 : decode cX12_breaks 8 = .ok (.istore 4, 2) := by decide +kernel
theorem dX12_breaks_10 : decode cX12_breaks 10 = .ok (.iload 4, 2) := by decide +kernel
theorem dX12_breaks_12 : decode cX12_breaks 12 = .ok (.ifCond .lt 216, 3) := by decide +kernel
theorem dX12_breaks_15 : decode cX12_breaks 15 = .ok (.aload_n 0, 1) := by decide +kernel
theorem dX12_breaks_16 : decode cX12_breaks 16 = .ok (.getfield 71, 3) := by decide +kernel
theorem dX12_breaks_19 : decode cX12_breaks 19 = .ok (.iload_n 1, 1) := by decide +kernel
theorem dX12_breaks_20 : decode cX12_breaks 20 = .ok (.iaload, 1) := by decide +kernel
theorem dX12_breaks_21 : decode cX12_breaks 21 = .ok (.aload_n 0, 1) := by decide +kernel
theorem dX12_breaks_22 : decode cX12_breaks 22 = .ok (.getfield 71, 3) := by decide +kernel
theorem dX12_breaks_25 : decode cX12_breaks 25 = .ok (.iload 4, 2) := by decide +kernel
theorem dX12_breaks_27 : decode cX12_breaks 27 = .ok (.iaload, 1) := by decide +kernel
theorem dX12_breaks_28 : decode cX12_breaks 28 = .ok (.isub, 1) := by decide +kernel
theorem dX12_breaks_29 : decode cX12_breaks 29 = .ok (.istore 5, 2) := by decide +kernel
theorem dX12_breaks_31 : decode cX12_breaks 31 = .ok (.bipush 12, 2) := by decide +kernel
theorem dX12_breaks_33 : decode cX12_breaks 33 = .ok (.istore 6, 2) := by decide +kernel
theorem dX12_breaks_35 : decode cX12_breaks 35 = .ok (.iload 6, 2) := by decide +kernel
theorem dX12_breaks_37 : decode cX12_breaks 37 = .ok (.ifCond .lt 117, 3) := by decide +kernel
theorem dX12_breaks_40 : decode cX12_breaks 40 = .ok (.iload 6, 2) := by decide +kernel
theorem dX12_breaks_42 : decode cX12_breaks 42 = .ok (.bipush 10, 2) := by decide +kernel
theorem dX12_breaks_44 : decode cX12_breaks 44 = .ok (.if_icmp .eq 79, 3) := by decide +kernel
theorem dX12_breaks_47 : decode cX12_breaks 47 = .ok (.iload 5, 2) := by decide +kernel
theorem dX12_breaks_49 : decode cX12_breaks 49 = .ok (.aload_n 0, 1) := by decide +kernel
theorem dX12_breaks_50 : decode cX12_breaks 50 = .ok (.iload 6, 2) := by decide +kernel
theorem dX12_breaks_52 : decode cX12_breaks 52 = .ok (.aload_n 0, 1) := by decide +kernel
theorem dX12_breaks_53 : decode cX12_breaks 53 = .ok (.getfield 74, 3) := by decide +kernel
theorem dX12_breaks_56 : decode cX12_breaks 56 = .ok (.iload 4, 2) := by decide +kernel
theorem dX12_breaks_58 : decode cX12_breaks 58 = .ok (.iaload, 1) := by decide +kernel
theorem dX12_breaks_59 : decode cX12_breaks 59 = .ok (.aload_n 0, 1) := by decide +kernel
theorem dX12_breaks_60 : decode cX12_breaks 60 = .ok (.getfield 77, 3) := by decide +kernel
theorem dX12_breaks_63 : decode cX12_breaks 63 = .ok (.iload 4, 2) := by decide +kernel
theorem dX12_breaks_65 : decode cX12_breaks 65 = .ok (.iaload, 1) := by decide +kernel
theorem dX12_breaks_66 : decode cX12_breaks 66 = .ok (.aload_n 0, 1) := by decide +kernel
theorem dX12_breaks_67 : decode cX12_breaks 67 = .ok (.getfield 74, 3) := by decide +kernel
theorem dX12_breaks_70 : decode cX12_breaks 70 = .ok (.iload_n 1, 1) := by decide +kernel
theorem dX12_breaks_71 : decode cX12_breaks 71 = .ok (.iaload, 1) := by decide +kernel
theorem dX12_breaks_72 : decode cX12_breaks 72 = .ok (.aload_n 0, 1) := by decide +kernel
theorem dX12_breaks_73 : decode cX12_breaks 73 = .ok (.getfield 77, 3) := by decide +kernel
theorem dX12_breaks_76 : decode cX12_breaks 76 = .ok (.iload_n 1, 1) := by decide +kernel
theorem dX12_breaks_77 : decode cX12_breaks 77 = .ok (.iaload, 1) := by decide +kernel
theorem dX12_breaks_78 : decode cX12_breaks 78 = .ok (.invokevirtual 187, 3) := by decide +kernel
theorem dX12_breaks_81 : decode cX12_breaks 81 = .ok (.if_icmp .ge 42, 3) := by decide +kernel
theorem dX12_breaks_84 : decode cX12_breaks 84 = .ok (.aload_n 0, 1) := by decide +kernel
theorem dX12_breaks_85 : decode cX12_breaks 85 = .ok (.iload 6, 2) := by decide +kernel
theorem dX12_breaks_87 : decode cX12_breaks 87 = .ok (.aload_n 0, 1) := by decide +kernel
theorem dX12_breaks_88 : decode cX12_breaks 88 = .ok (.getfield 74, 3) := by decide +kernel
theorem dX12_breaks_91 : decode cX12_breaks 91 = .ok (.iload 4, 2) := by decide +kernel
theorem dX12_breaks_93 : decode cX12_breaks 93 = .ok (.iaload, 1) := by decide +kernel
theorem dX12_breaks_94 : decode cX12_breaks 94 = .ok (.aload_n 0, 1) := by decide +kernel
theorem dX12_breaks_95 : decode cX12_breaks 95 = .ok (.getfield 77, 3) := by decide +kernel
theorem dX12_breaks_98 : decode cX12_breaks 98 = .ok (.iload 4, 2) := by decide +kernel
theorem dX12_breaks_100 : decode cX12_breaks 100 = .ok (.iaload, 1) := by decide +kernel
theorem dX12_breaks_101 : decode cX12_breaks 101 = .ok (.aload_n 0, 1) := by decide +kernel
theorem dX12_breaks_102 : decode cX12_breaks 102 = .ok (.getfield 74, 3) := by decide +kernel
theorem dX12_breaks_105 : decode cX12_breaks 105 = .ok (.iload_n 1, 1) := by decide +kernel
theorem dX12_breaks_106 : decode cX12_breaks 106 = .ok (.iaload, 1) := by decide +kernel
theorem dX12_breaks_107 : decode cX12_breaks 107 = .ok (.aload_n 0, 1) := by decide +kernel
theorem dX12_breaks_108 : decode cX12_breaks 108 = .ok (.getfield 77, 3) := by decide +kernel
theorem dX12_breaks_111 : decode cX12_breaks 111 = .ok (.iload_n 1, 1) := by decide +kernel
theorem dX12_breaks_112 : decode cX12_breaks 112 = .ok (.iaload, 1) := by decide +kernel
theorem dX12_breaks_113 : decode cX12_breaks 113 = .ok (.invokevirtual 187, 3) := by decide +kernel
theorem dX12_breaks_116 : decode cX12_breaks 116 = .ok (.ifCond .le 7, 3) := by decide +kernel
theorem dX12_breaks_119 : decode cX12_breaks 119 = .ok (.iconst 1, 1) := by decide +kernel
theorem dX12_breaks_120 : decode cX12_breaks 120 = .ok (.goto 4, 3) := by decide +kernel
theorem dX12_breaks_123 : decode cX12_breaks 123 = .ok (.iconst 0, 1) := by decide +kernel
theorem dX12_breaks_124 : decode cX12_breaks 124 = .ok (.istore 7, 2) := by decide +kernel
theorem dX12_breaks_126 : decode cX12_breaks 126 = .ok (.iload 7, 2) := by decide +kernel
theorem dX12_breaks_128 : decode cX12_breaks 128 = .ok (.ifCond .eq 18, 3) := by decide +kernel
theorem dX12_breaks_131 : decode cX12_breaks 131 = .ok (.iload_n 2, 1) := by decide +kernel
theorem dX12_breaks_132 : decode cX12_breaks 132 = .ok (.ifCond .lt 9, 3) := by decide +kernel
theorem dX12_breaks_135 : decode cX12_breaks 135 = .ok (.iload 6, 2) := by decide +kernel
theorem dX12_breaks_137 : decode cX12_breaks 137 = .ok (.iload_n 2, 1) := by decide +kernel
theorem dX12_breaks_138 : decode cX12_breaks 138 = .ok (.if_icmp .ge 8, 3) := by decide +kernel
theorem dX12_breaks_141 : decode cX12_breaks 141 = .ok (.iload 6, 2) := by decide +kernel
theorem dX12_breaks_143 : decode cX12_breaks 143 = .ok (.goto 4, 3) := by decide +kernel
theorem dX12_breaks_146 : decode cX12_breaks 146 = .ok (.iload_n 2, 1) := by decide +kernel
theorem dX12_breaks_147 : decode cX12_breaks 147 = .ok (.istore_n 2, 1) := by decide +kernel
theorem dX12_breaks_148 : decode cX12_breaks 148 = .ok (.iinc 6 (-1), 3) := by decide +kernel
theorem dX12_breaks_151 : decode cX12_breaks 151 = .ok (.goto (-116), 3) := by decide +kernel
theorem dX12_breaks_154 : decode cX12_breaks 154 = .ok (.aload_n 0, 1) := by decide +kernel
theorem dX12_breaks_155 : decode cX12_breaks 155 = .ok (.getfield 74, 3) := by decide +kernel
theorem dX12_breaks_158 : decode cX12_breaks 158 = .ok (.iload 4, 2) := by decide +kernel
theorem dX12_breaks_160 : decode cX12_breaks 160 = .ok (.iaload, 1) := by decide +kernel
theorem dX12_breaks_161 : decode cX12_breaks 161 = .ok (.ifCond .ne 61, 3) := by decide +kernel
theorem dX12_breaks_164 : decode cX12_breaks 164 = .ok (.aload_n 0, 1) := by decide +kernel
theorem dX12_breaks_165 : decode cX12_breaks 165 = .ok (.getfield 74, 3) := by decide +kernel
theorem dX12_breaks_168 : decode cX12_breaks 168 = .ok (.iload_n 1, 1) := by decide +kernel
theorem dX12_breaks_169 : decode cX12_breaks 169 = .ok (.iaload, 1) := by decide +kernel
theorem dX12_breaks_170 : decode cX12_breaks 170 = .ok (.ifCond .ne 52, 3) := by decide +kernel
theorem dX12_breaks_173 : decode cX12_breaks 173 = .ok (.iinc 3 1, 3) := by decide +kernel
theorem dX12_breaks_176 : decode cX12_breaks 176 = .ok (.iload_n 3, 1) := by decide +kernel
theorem dX12_breaks_177 : decode cX12_breaks 177 = .ok (.iconst 4, 1) := by decide +kernel
theorem dX12_breaks_178 : decode cX12_breaks 178 = .ok (.if_icmp .ne 19, 3) := by decide +kernel
theorem dX12_breaks_181 : decode cX12_breaks 181 = .ok (.iload 5, 2) := by decide +kernel
theorem dX12_breaks_183 : decode cX12_breaks 183 = .ok (.aload_n 0, 1) := by decide +kernel
theorem dX12_breaks_184 : decode cX12_breaks 184 = .ok (.getfield 7, 3) := by decide +kernel
theorem dX12_breaks_187 : decode cX12_breaks 187 = .ok (.bipush 10, 2) := by decide +kernel
theorem dX12_breaks_189 : decode cX12_breaks 189 = .ok (.iaload, 1) := by decide +kernel
theorem dX12_breaks_190 : decode cX12_breaks 190 = .ok (.if_icmp .ge 7, 3) := by decide +kernel
theorem dX12_breaks_193 : decode cX12_breaks 193 = .ok (.iconst 1, 1) := by decide +kernel
theorem dX12_breaks_194 : decode cX12_breaks 194 = .ok (.goto 4, 3) := by decide +kernel
theorem dX12_breaks_197 : decode cX12_breaks 197 = .ok (.iconst 0, 1) := by decide +kernel
theorem dX12_breaks_198 : decode cX12_breaks 198 = .ok (.istore 6, 2) := by decide +kernel
theorem dX12_breaks_200 : decode cX12_breaks 200 = .ok (.iload 6, 2) := by decide +kernel
theorem dX12_breaks_202 : decode cX12_breaks 202 = .ok (.ifCond .eq 18, 3) := by decide +kernel
theorem dX12_breaks_205 : decode cX12_breaks 205 = .ok (.iload_n 2, 1) := by decide +kernel
theorem dX12_breaks_206 : decode cX12_breaks 206 = .ok (.ifCond .lt 9, 3) := by decide +kernel
theorem dX12_breaks_209 : decode cX12_breaks 209 = .ok (.iload_n 2, 1) := by decide +kernel
theorem dX12_breaks_210 : decode cX12_breaks 210 = .ok (.bipush 10, 2) := by decide +kernel
theorem dX12_breaks_212 : decode cX12_breaks 212 = .ok (.if_icmp .le 8, 3) := by decide +kernel
theorem dX12_breaks_215 : decode cX12_breaks 215 = .ok (.bipush 10, 2) := by decide +kernel
theorem dX12_breaks_217 : decode cX12_breaks 217 = .ok (.goto 4, 3) := by decide +kernel
theorem dX12_breaks_220 : decode cX12_breaks 220 = .ok (.iload_n 2, 1) := by decide +kernel
theorem dX12_breaks_221 : decode cX12_breaks 221 = .ok (.istore_n 2, 1) := by decide +kernel
theorem dX12_breaks_222 : decode cX12_breaks 222 = .ok (.iinc 4 (-1), 3) := by decide +kernel
theorem dX12_breaks_225 : decode cX12_breaks 225 = .ok (.goto (-215), 3) := by decide +kernel
theorem dX12_breaks_228 : decode cX12_breaks 228 = .ok (.iload_n 2, 1) := by decide +kernel
theorem dX12_breaks_229 : decode cX12_breaks 229 = .ok (.ireturn, 1) := by decide +kernel
theorem dX12_check_0 : decode cX12_check 0 = .ok (.aload_n 0, 1) := by decide +kernel
theorem dX12_check_1 : decode cX12_check 1 = .ok (.iconst 0, 1) := by decide +kernel
theorem dX12_check_2 : decode cX12_check 2 = .ok (.putfield 113, 3) := by decide +kernel
theorem dX12_check_5 : decode cX12_check 5 = .ok (.aload_n 0, 1) := by decide +kernel
theorem dX12_check_6 : decode cX12_check 6 = .ok (.bipush (-2), 2) := by decide +kernel
theorem dX12_check_8 : decode cX12_check 8 = .ok (.putfield 86, 3) := by decide +kernel
theorem dX12_check_11 : decode cX12_check 11 = .ok (.iconst 0, 1) := by decide +kernel
theorem dX12_check_12 : decode cX12_check 12 = .ok (.istore_n 1, 1) := by decide +kernel
theorem dX12_check_13 : decode cX12_check 13 = .ok (.iload_n 1, 1) := by decide +kernel
theorem dX12_check_14 : decode cX12_check 14 = .ok (.aload_n 0, 1) := by decide +kernel
theorem dX12_check_15 : decode cX12_check 15 = .ok (.getfield 241, 3) := by decide +kernel
theorem dX12_check_18 : decode cX12_check 18 = .ok (.if_icmp .ge 66, 3) := by decide +kernel
theorem dX12_check_21 : decode cX12_check 21 = .ok (.aload_n 0, 1) := by decide +kernel
theorem dX12_check_22 : decode cX12_check 22 = .ok (.iload_n 1, 1) := by decide +kernel
theorem dX12_check_23 : decode cX12_check 23 = .ok (.invokevirtual 288, 3) := by decide +kernel
theorem dX12_check_26 : decode cX12_check 26 = .ok (.istore_n 2, 1) := by decide +kernel
theorem dX12_check_27 : decode cX12_check 27 = .ok (.iload_n 1, 1) := by decide +kernel
theorem dX12_check_28 : decode cX12_check 28 = .ok (.ifCond .eq 20, 3) := by decide +kernel
theorem dX12_check_31 : decode cX12_check 31 = .ok (.aload_n 0, 1) := by decide +kernel
theorem dX12_check_32 : decode cX12_check 32 = .ok (.getfield 71, 3) := by decide +kernel
theorem dX12_check_35 : decode cX12_check 35 = .ok (.iload_n 1, 1) := by decide +kernel
theorem dX12_check_36 : decode cX12_check 36 = .ok (.iaload, 1) := by decide +kernel
theorem dX12_check_37 : decode cX12_check 37 = .ok (.aload_n 0, 1) := by decide +kernel
theorem dX12_check_38 : decode cX12_check 38 = .ok (.getfield 71, 3) := by decide +kernel
theorem dX12_check_41 : decode cX12_check 41 = .ok (.iload_n 1, 1) := by decide +kernel
theorem dX12_check_42 : decode cX12_check 42 = .ok (.iconst 1, 1) := by decide +kernel
theorem dX12_check_43 : decode cX12_check 43 = .ok (.isub, 1) := by decide +kernel
theorem dX12_check_44 : decode cX12_check 44 = .ok (.iaload, 1) := by decide +kernel
theorem dX12_check_45 : decode cX12_check 45 = .ok (.if_icmp .le 7, 3) := by decide +kernel
theorem dX12_check_48 : decode cX12_check 48 = .ok (.iconst 1, 1) := by decide +kernel
theorem dX12_check_49 : decode cX12_check 49 = .ok (.goto 4, 3) := by decide +kernel
theorem dX12_check_52 : decode cX12_check 52 = .ok (.iconst 0, 1) := by decide +kernel
theorem dX12_check_53 : decode cX12_check 53 = .ok (.istore_n 3, 1) := by decide +kernel
theorem dX12_check_54 : decode cX12_check 54 = .ok (.iload_n 2, 1) := by decide +kernel
theorem dX12_check_55 : decode cX12_check 55 = .ok (.ifCond .ge 7, 3) := by decide +kernel
theorem dX12_check_58 : decode cX12_check 58 = .ok (.iload_n 3, 1) := by decide +kernel
theorem dX12_check_59 : decode cX12_check 59 = .ok (.ifCond .ne 19, 3) := by decide +kernel
theorem dX12_check_62 : decode cX12_check 62 = .ok (.aload_n 0, 1) := by decide +kernel
theorem dX12_check_63 : decode cX12_check 63 = .ok (.iload_n 2, 1) := by decide +kernel
theorem dX12_check_64 : decode cX12_check 64 = .ok (.ifCond .lt 7, 3) := by decide +kernel
theorem dX12_check_67 : decode cX12_check 67 = .ok (.iload_n 2, 1) := by decide +kernel
theorem dX12_check_68 : decode cX12_check 68 = .ok (.goto 5, 3) := by decide +kernel
theorem dX12_check_71 : decode cX12_check 71 = .ok (.bipush 13, 2) := by decide +kernel
theorem dX12_check_73 : decode cX12_check 73 = .ok (.putfield 86, 3) := by decide +kernel
theorem dX12_check_76 : decode cX12_check 76 = .ok (.iload_n 1, 1) := by decide +kernel
theorem dX12_check_77 : decode cX12_check 77 = .ok (.ireturn, 1) := by decide +kernel
theorem dX12_check_78 : decode cX12_check 78 = .ok (.iinc 1 1, 3) := by decide +kernel
theorem dX12_check_81 : decode cX12_check 81 = .ok (.goto (-68), 3) := by decide +kernel
theorem dX12_check_84 : decode cX12_check 84 = .ok (.bipush (-2), 2) := by decide +kernel
theorem dX12_check_86 : decode cX12_check 86 = .ok (.ireturn, 1) := by decide +kernel
theorem dX12_broken_0 : decode cX12_broken 0 = .ok (.aload_n 0, 1) := by decide +kernel
theorem dX12_broken_1 : decode cX12_broken 1 = .ok (.iconst 0, 1) := by decide +kernel
theorem dX12_broken_2 : decode cX12_broken 2 = .ok (.putfield 113, 3) := by decide +kernel
theorem dX12_broken_5 : decode cX12_broken 5 = .ok (.aload_n 0, 1) := by decide +kernel
theorem dX12_broken_6 : decode cX12_broken 6 = .ok (.getfield 86, 3) := by decide +kernel
theorem dX12_broken_9 : decode cX12_broken 9 = .ok (.ireturn, 1) := by decide +kernel
theorem dX12_worst_0 : decode cX12_worst 0 = .ok (.aload_n 0, 1) := by decide +kernel
theorem dX12_worst_1 : decode cX12_worst 1 = .ok (.iconst 0, 1) := by decide +kernel
theorem dX12_worst_2 : decode cX12_worst 2 = .ok (.putfield 113, 3) := by decide +kernel
theorem dX12_worst_5 : decode cX12_worst 5 = .ok (.iload_n 1, 1) := by decide +kernel
theorem dX12_worst_6 : decode cX12_worst 6 = .ok (.i2l, 1) := by decide +kernel
theorem dX12_worst_7 : decode cX12_worst 7 = .ok (.lconst 0, 1) := by decide +kernel
theorem dX12_worst_8 : decode cX12_worst 8 = .ok (.ldc2_w 150, 3) := by decide +kernel
theorem dX12_worst_11 : decode cX12_worst 11 = .ok (.invokestatic 118, 3) := by decide +kernel
theorem dX12_worst_14 : decode cX12_worst 14 = .ok (.ifCond .ne 5, 3) := by decide +kernel
theorem dX12_worst_17 : decode cX12_worst 17 = .ok (.iconst (-1), 1) := by decide +kernel
theorem dX12_worst_18 : decode cX12_worst 18 = .ok (.ireturn, 1) := by decide +kernel
theorem dX12_worst_19 : decode cX12_worst 19 = .ok (.bipush (-2), 2) := by decide +kernel
theorem dX12_worst_21 : decode cX12_worst 21 = .ok (.istore_n 2, 1) := by decide +kernel
theorem dX12_worst_22 : decode cX12_worst 22 = .ok (.iconst 0, 1) := by decide +kernel
theorem dX12_worst_23 : decode cX12_worst 23 = .ok (.istore_n 3, 1) := by decide +kernel
theorem dX12_worst_24 : decode cX12_worst 24 = .ok (.iload_n 3, 1) := by decide +kernel
theorem dX12_worst_25 : decode cX12_worst 25 = .ok (.aload_n 0, 1) := by decide +kernel
theorem dX12_worst_26 : decode cX12_worst 26 = .ok (.getfield 141, 3) := by decide +kernel
theorem dX12_worst_29 : decode cX12_worst 29 = .ok (.if_icmp .ge 84, 3) := by decide +kernel
theorem dX12_worst_32 : decode cX12_worst 32 = .ok (.aload_n 0, 1) := by decide +kernel
theorem dX12_worst_33 : decode cX12_worst 33 = .ok (.getfield 32, 3) := by decide +kernel
theorem dX12_worst_36 : decode cX12_worst 36 = .ok (.iload_n 3, 1) := by decide +kernel
theorem dX12_worst_37 : decode cX12_worst 37 = .ok (.iaload, 1) := by decide +kernel
theorem dX12_worst_38 : decode cX12_worst 38 = .ok (.iload_n 1, 1) := by decide +kernel
theorem dX12_worst_39 : decode cX12_worst 39 = .ok (.if_icmp .ne 42, 3) := by decide +kernel
theorem dX12_worst_42 : decode cX12_worst 42 = .ok (.aload_n 0, 1) := by decide +kernel
theorem dX12_worst_43 : decode cX12_worst 43 = .ok (.getfield 29, 3) := by decide +kernel
theorem dX12_worst_46 : decode cX12_worst 46 = .ok (.iload_n 3, 1) := by decide +kernel
theorem dX12_worst_47 : decode cX12_worst 47 = .ok (.iaload, 1) := by decide +kernel
theorem dX12_worst_48 : decode cX12_worst 48 = .ok (.iconst 4, 1) := by decide +kernel
theorem dX12_worst_49 : decode cX12_worst 49 = .ok (.if_icmp .eq 32, 3) := by decide +kernel
theorem dX12_worst_52 : decode cX12_worst 52 = .ok (.aload_n 0, 1) := by decide +kernel
theorem dX12_worst_53 : decode cX12_worst 53 = .ok (.iload_n 3, 1) := by decide +kernel
theorem dX12_worst_54 : decode cX12_worst 54 = .ok (.invokevirtual 164, 3) := by decide +kernel
theorem dX12_worst_57 : decode cX12_worst 57 = .ok (.ifCond .ne 24, 3) := by decide +kernel
theorem dX12_worst_60 : decode cX12_worst 60 = .ok (.aload_n 0, 1) := by decide +kernel
theorem dX12_worst_61 : decode cX12_worst 61 = .ok (.getfield 47, 3) := by decide +kernel
theorem dX12_worst_64 : decode cX12_worst 64 = .ok (.iload_n 3, 1) := by decide +kernel
theorem dX12_worst_65 : decode cX12_worst 65 = .ok (.iaload, 1) := by decide +kernel
theorem dX12_worst_66 : decode cX12_worst 66 = .ok (.aload_n 0, 1) := by decide +kernel
theorem dX12_worst_67 : decode cX12_worst 67 = .ok (.getfield 44, 3) := by decide +kernel
theorem dX12_worst_70 : decode cX12_worst 70 = .ok (.iload_n 3, 1) := by decide +kernel
theorem dX12_worst_71 : decode cX12_worst 71 = .ok (.iaload, 1) := by decide +kernel
theorem dX12_worst_72 : decode cX12_worst 72 = .ok (.isub, 1) := by decide +kernel
theorem dX12_worst_73 : decode cX12_worst 73 = .ok (.iload_n 2, 1) := by decide +kernel
theorem dX12_worst_74 : decode cX12_worst 74 = .ok (.if_icmp .le 7, 3) := by decide +kernel
theorem dX12_worst_77 : decode cX12_worst 77 = .ok (.iconst 1, 1) := by decide +kernel
theorem dX12_worst_78 : decode cX12_worst 78 = .ok (.goto 4, 3) := by decide +kernel
theorem dX12_worst_81 : decode cX12_worst 81 = .ok (.iconst 0, 1) := by decide +kernel
theorem dX12_worst_82 : decode cX12_worst 82 = .ok (.istore 4, 2) := by decide +kernel
theorem dX12_worst_84 : decode cX12_worst 84 = .ok (.iload 4, 2) := by decide +kernel
theorem dX12_worst_86 : decode cX12_worst 86 = .ok (.ifCond .eq 19, 3) := by decide +kernel
theorem dX12_worst_89 : decode cX12_worst 89 = .ok (.aload_n 0, 1) := by decide +kernel
theorem dX12_worst_90 : decode cX12_worst 90 = .ok (.getfield 47, 3) := by decide +kernel
theorem dX12_worst_93 : decode cX12_worst 93 = .ok (.iload_n 3, 1) := by decide +kernel
theorem dX12_worst_94 : decode cX12_worst 94 = .ok (.iaload, 1) := by decide +kernel
theorem dX12_worst_95 : decode cX12_worst 95 = .ok (.aload_n 0, 1) := by decide +kernel
theorem dX12_worst_96 : decode cX12_worst 96 = .ok (.getfield 44, 3) := by decide +kernel
theorem dX12_worst_99 : decode cX12_worst 99 = .ok (.iload_n 3, 1) := by decide +kernel
theorem dX12_worst_100 : decode cX12_worst 100 = .ok (.iaload, 1) := by decide +kernel
theorem dX12_worst_101 : decode cX12_worst 101 = .ok (.isub, 1) := by decide +kernel
theorem dX12_worst_102 : decode cX12_worst 102 = .ok (.goto 4, 3) := by decide +kernel
theorem dX12_worst_105 : decode cX12_worst 105 = .ok (.iload_n 2, 1) := by decide +kernel
theorem dX12_worst_106 : decode cX12_worst 106 = .ok (.istore_n 2, 1) := by decide +kernel
theorem dX12_worst_107 : decode cX12_worst 107 = .ok (.iinc 3 1, 3) := by decide +kernel
theorem dX12_worst_110 : decode cX12_worst 110 = .ok (.goto (-86), 3) := by decide +kernel
theorem dX12_worst_113 : decode cX12_worst 113 = .ok (.iload_n 2, 1) := by decide +kernel
theorem dX12_worst_114 : decode cX12_worst 114 = .ok (.ireturn, 1) := by decide +kernel
theorem dX12_beside_0 : decode cX12_beside 0 = .ok (.aload_n 0, 1) := by decide +kernel
theorem dX12_beside_1 : decode cX12_beside 1 = .ok (.iconst 0, 1) := by decide +kernel
theorem dX12_beside_2 : decode cX12_beside 2 = .ok (.putfield 113, 3) := by decide +kernel
theorem dX12_beside_5 : decode cX12_beside 5 = .ok (.iconst 1, 1) := by decide +kernel
theorem dX12_beside_6 : decode cX12_beside 6 = .ok (.istore_n 1, 1) := by decide +kernel
theorem dX12_beside_7 : decode cX12_beside 7 = .ok (.iconst 0, 1) := by decide +kernel
theorem dX12_beside_8 : decode cX12_beside 8 = .ok (.istore_n 2, 1) := by decide +kernel
theorem dX12_beside_9 : decode cX12_beside 9 = .ok (.iload_n 2, 1) := by decide +kernel
theorem dX12_beside_10 : decode cX12_beside 10 = .ok (.sipush 1024, 3) := by decide +kernel
theorem dX12_beside_13 : decode cX12_beside 13 = .ok (.if_icmp .ge 16, 3) := by decide +kernel
theorem dX12_beside_16 : decode cX12_beside 16 = .ok (.aload_n 0, 1) := by decide +kernel
theorem dX12_beside_17 : decode cX12_beside 17 = .ok (.getfield 95, 3) := by decide +kernel
theorem dX12_beside_20 : decode cX12_beside 20 = .ok (.iload_n 2, 1) := by decide +kernel
theorem dX12_beside_21 : decode cX12_beside 21 = .ok (.iconst 0, 1) := by decide +kernel
theorem dX12_beside_22 : decode cX12_beside 22 = .ok (.iastore, 1) := by decide +kernel
theorem dX12_beside_23 : decode cX12_beside 23 = .ok (.iinc 2 1, 3) := by decide +kernel
theorem dX12_beside_26 : decode cX12_beside 26 = .ok (.goto (-17), 3) := by decide +kernel
theorem dX12_beside_29 : decode cX12_beside 29 = .ok (.iconst 0, 1) := by decide +kernel
theorem dX12_beside_30 : decode cX12_beside 30 = .ok (.istore_n 2, 1) := by decide +kernel
theorem dX12_beside_31 : decode cX12_beside 31 = .ok (.iload_n 2, 1) := by decide +kernel
theorem dX12_beside_32 : decode cX12_beside 32 = .ok (.aload_n 0, 1) := by decide +kernel
theorem dX12_beside_33 : decode cX12_beside 33 = .ok (.getfield 141, 3) := by decide +kernel
theorem dX12_beside_36 : decode cX12_beside 36 = .ok (.if_icmp .ge 121, 3) := by decide +kernel
theorem dX12_beside_39 : decode cX12_beside 39 = .ok (.aload_n 0, 1) := by decide +kernel
theorem dX12_beside_40 : decode cX12_beside 40 = .ok (.iload_n 2, 1) := by decide +kernel
theorem dX12_beside_41 : decode cX12_beside 41 = .ok (.invokevirtual 164, 3) := by decide +kernel
theorem dX12_beside_44 : decode cX12_beside 44 = .ok (.ifCond .ne 107, 3) := by decide +kernel
theorem dX12_beside_47 : decode cX12_beside 47 = .ok (.aload_n 0, 1) := by decide +kernel
theorem dX12_beside_48 : decode cX12_beside 48 = .ok (.getfield 29, 3) := by decide +kernel
theorem dX12_beside_51 : decode cX12_beside 51 = .ok (.iload_n 2, 1) := by decide +kernel
theorem dX12_beside_52 : decode cX12_beside 52 = .ok (.iaload, 1) := by decide +kernel
theorem dX12_beside_53 : decode cX12_beside 53 = .ok (.iconst 4, 1) := by decide +kernel
theorem dX12_beside_54 : decode cX12_beside 54 = .ok (.if_icmp .ne 6, 3) := by decide +kernel
theorem dX12_beside_57 : decode cX12_beside 57 = .ok (.goto 94, 3) := by decide +kernel
theorem dX12_beside_60 : decode cX12_beside 60 = .ok (.aload_n 0, 1) := by decide +kernel
theorem dX12_beside_61 : decode cX12_beside 61 = .ok (.getfield 95, 3) := by decide +kernel
theorem dX12_beside_64 : decode cX12_beside 64 = .ok (.aload_n 0, 1) := by decide +kernel
theorem dX12_beside_65 : decode cX12_beside 65 = .ok (.getfield 35, 3) := by decide +kernel
theorem dX12_beside_68 : decode cX12_beside 68 = .ok (.iload_n 2, 1) := by decide +kernel
theorem dX12_beside_69 : decode cX12_beside 69 = .ok (.iaload, 1) := by decide +kernel
theorem dX12_beside_70 : decode cX12_beside 70 = .ok (.iaload, 1) := by decide +kernel
theorem dX12_beside_71 : decode cX12_beside 71 = .ok (.istore_n 3, 1) := by decide +kernel
theorem dX12_beside_72 : decode cX12_beside 72 = .ok (.iload_n 1, 1) := by decide +kernel
theorem dX12_beside_73 : decode cX12_beside 73 = .ok (.ifCond .eq 28, 3) := by decide +kernel
theorem dX12_beside_76 : decode cX12_beside 76 = .ok (.aload_n 0, 1) := by decide +kernel
theorem dX12_beside_77 : decode cX12_beside 77 = .ok (.getfield 50, 3) := by decide +kernel
theorem dX12_beside_80 : decode cX12_beside 80 = .ok (.iload_n 2, 1) := by decide +kernel
theorem dX12_beside_81 : decode cX12_beside 81 = .ok (.iaload, 1) := by decide +kernel
theorem dX12_beside_82 : decode cX12_beside 82 = .ok (.bipush (-2), 2) := by decide +kernel
theorem dX12_beside_84 : decode cX12_beside 84 = .ok (.if_icmp .eq 13, 3) := by decide +kernel
theorem dX12_beside_87 : decode cX12_beside 87 = .ok (.aload_n 0, 1) := by decide +kernel
theorem dX12_beside_88 : decode cX12_beside 88 = .ok (.getfield 50, 3) := by decide +kernel
theorem dX12_beside_91 : decode cX12_beside 91 = .ok (.iload_n 2, 1) := by decide +kernel
theorem dX12_beside_92 : decode cX12_beside 92 = .ok (.iaload, 1) := by decide +kernel
theorem dX12_beside_93 : decode cX12_beside 93 = .ok (.iload_n 3, 1) := by decide +kernel
theorem dX12_beside_94 : decode cX12_beside 94 = .ok (.if_icmp .ne 7, 3) := by decide +kernel
theorem dX12_beside_97 : decode cX12_beside 97 = .ok (.iconst 1, 1) := by decide +kernel
theorem dX12_beside_98 : decode cX12_beside 98 = .ok (.goto 4, 3) := by decide +kernel
theorem dX12_beside_101 : decode cX12_beside 101 = .ok (.iconst 0, 1) := by decide +kernel
theorem dX12_beside_102 : decode cX12_beside 102 = .ok (.istore_n 1, 1) := by decide +kernel
theorem dX12_beside_103 : decode cX12_beside 103 = .ok (.aload_n 0, 1) := by decide +kernel
theorem dX12_beside_104 : decode cX12_beside 104 = .ok (.getfield 95, 3) := by decide +kernel
theorem dX12_beside_107 : decode cX12_beside 107 = .ok (.aload_n 0, 1) := by decide +kernel
theorem dX12_beside_108 : decode cX12_beside 108 = .ok (.getfield 35, 3) := by decide +kernel
theorem dX12_beside_111 : decode cX12_beside 111 = .ok (.iload_n 2, 1) := by decide +kernel
theorem dX12_beside_112 : decode cX12_beside 112 = .ok (.iaload, 1) := by decide +kernel
theorem dX12_beside_113 : decode cX12_beside 113 = .ok (.aload_n 0, 1) := by decide +kernel
theorem dX12_beside_114 : decode cX12_beside 114 = .ok (.getfield 29, 3) := by decide +kernel
theorem dX12_beside_117 : decode cX12_beside 117 = .ok (.iload_n 2, 1) := by decide +kernel
theorem dX12_beside_118 : decode cX12_beside 118 = .ok (.iaload, 1) := by decide +kernel
theorem dX12_beside_119 : decode cX12_beside 119 = .ok (.ifCond .ne 7, 3) := by decide +kernel
theorem dX12_beside_122 : decode cX12_beside 122 = .ok (.iload_n 3, 1) := by decide +kernel
theorem dX12_beside_123 : decode cX12_beside 123 = .ok (.goto 27, 3) := by decide +kernel
theorem dX12_beside_126 : decode cX12_beside 126 = .ok (.iload_n 3, 1) := by decide +kernel
theorem dX12_beside_127 : decode cX12_beside 127 = .ok (.aload_n 0, 1) := by decide +kernel
theorem dX12_beside_128 : decode cX12_beside 128 = .ok (.getfield 41, 3) := by decide +kernel
theorem dX12_beside_131 : decode cX12_beside 131 = .ok (.iload_n 2, 1) := by decide +kernel
theorem dX12_beside_132 : decode cX12_beside 132 = .ok (.iaload, 1) := by decide +kernel
theorem dX12_beside_133 : decode cX12_beside 133 = .ok (.iconst (-1), 1) := by decide +kernel
theorem dX12_beside_134 : decode cX12_beside 134 = .ok (.ixor, 1) := by decide +kernel
theorem dX12_beside_135 : decode cX12_beside 135 = .ok (.iand, 1) := by decide +kernel
theorem dX12_beside_136 : decode cX12_beside 136 = .ok (.aload_n 0, 1) := by decide +kernel
theorem dX12_beside_137 : decode cX12_beside 137 = .ok (.getfield 38, 3) := by decide +kernel
theorem dX12_beside_140 : decode cX12_beside 140 = .ok (.iload_n 2, 1) := by decide +kernel
theorem dX12_beside_141 : decode cX12_beside 141 = .ok (.iaload, 1) := by decide +kernel
theorem dX12_beside_142 : decode cX12_beside 142 = .ok (.aload_n 0, 1) := by decide +kernel
theorem dX12_beside_143 : decode cX12_beside 143 = .ok (.getfield 41, 3) := by decide +kernel
theorem dX12_beside_146 : decode cX12_beside 146 = .ok (.iload_n 2, 1) := by decide +kernel
theorem dX12_beside_147 : decode cX12_beside 147 = .ok (.iaload, 1) := by decide +kernel
theorem dX12_beside_148 : decode cX12_beside 148 = .ok (.iand, 1) := by decide +kernel
theorem dX12_beside_149 : decode cX12_beside 149 = .ok (.ior, 1) := by decide +kernel
theorem dX12_beside_150 : decode cX12_beside 150 = .ok (.iastore, 1) := by decide +kernel
theorem dX12_beside_151 : decode cX12_beside 151 = .ok (.iinc 2 1, 3) := by decide +kernel
theorem dX12_beside_154 : decode cX12_beside 154 = .ok (.goto (-123), 3) := by decide +kernel
theorem dX12_beside_157 : decode cX12_beside 157 = .ok (.iconst 0, 1) := by decide +kernel
theorem dX12_beside_158 : decode cX12_beside 158 = .ok (.istore_n 2, 1) := by decide +kernel
theorem dX12_beside_159 : decode cX12_beside 159 = .ok (.iload_n 2, 1) := by decide +kernel
theorem dX12_beside_160 : decode cX12_beside 160 = .ok (.aload_n 0, 1) := by decide +kernel
theorem dX12_beside_161 : decode cX12_beside 161 = .ok (.getfield 141, 3) := by decide +kernel
theorem dX12_beside_164 : decode cX12_beside 164 = .ok (.if_icmp .ge 54, 3) := by decide +kernel
theorem dX12_beside_167 : decode cX12_beside 167 = .ok (.iload_n 1, 1) := by decide +kernel
theorem dX12_beside_168 : decode cX12_beside 168 = .ok (.ifCond .eq 42, 3) := by decide +kernel
theorem dX12_beside_171 : decode cX12_beside 171 = .ok (.aload_n 0, 1) := by decide +kernel
theorem dX12_beside_172 : decode cX12_beside 172 = .ok (.getfield 29, 3) := by decide +kernel
theorem dX12_beside_175 : decode cX12_beside 175 = .ok (.iload_n 2, 1) := by decide +kernel
theorem dX12_beside_176 : decode cX12_beside 176 = .ok (.iaload, 1) := by decide +kernel
theorem dX12_beside_177 : decode cX12_beside 177 = .ok (.iconst 4, 1) := by decide +kernel
theorem dX12_beside_178 : decode cX12_beside 178 = .ok (.if_icmp .eq 28, 3) := by decide +kernel
theorem dX12_beside_181 : decode cX12_beside 181 = .ok (.aload_n 0, 1) := by decide +kernel
theorem dX12_beside_182 : decode cX12_beside 182 = .ok (.getfield 95, 3) := by decide +kernel
theorem dX12_beside_185 : decode cX12_beside 185 = .ok (.aload_n 0, 1) := by decide +kernel
theorem dX12_beside_186 : decode cX12_beside 186 = .ok (.getfield 35, 3) := by decide +kernel
theorem dX12_beside_189 : decode cX12_beside 189 = .ok (.iload_n 2, 1) := by decide +kernel
theorem dX12_beside_190 : decode cX12_beside 190 = .ok (.iaload, 1) := by decide +kernel
theorem dX12_beside_191 : decode cX12_beside 191 = .ok (.iaload, 1) := by decide +kernel
theorem dX12_beside_192 : decode cX12_beside 192 = .ok (.aload_n 0, 1) := by decide +kernel
theorem dX12_beside_193 : decode cX12_beside 193 = .ok (.getfield 26, 3) := by decide +kernel
theorem dX12_beside_196 : decode cX12_beside 196 = .ok (.aload_n 0, 1) := by decide +kernel
theorem dX12_beside_197 : decode cX12_beside 197 = .ok (.getfield 35, 3) := by decide +kernel
theorem dX12_beside_200 : decode cX12_beside 200 = .ok (.iload_n 2, 1) := by decide +kernel
theorem dX12_beside_201 : decode cX12_beside 201 = .ok (.iaload, 1) := by decide +kernel
theorem dX12_beside_202 : decode cX12_beside 202 = .ok (.iaload, 1) := by decide +kernel
theorem dX12_beside_203 : decode cX12_beside 203 = .ok (.if_icmp .ne 7, 3) := by decide +kernel
theorem dX12_beside_206 : decode cX12_beside 206 = .ok (.iconst 1, 1) := by decide +kernel
theorem dX12_beside_207 : decode cX12_beside 207 = .ok (.goto 4, 3) := by decide +kernel
theorem dX12_beside_210 : decode cX12_beside 210 = .ok (.iconst 0, 1) := by decide +kernel
theorem dX12_beside_211 : decode cX12_beside 211 = .ok (.istore_n 1, 1) := by decide +kernel
theorem dX12_beside_212 : decode cX12_beside 212 = .ok (.iinc 2 1, 3) := by decide +kernel
theorem dX12_beside_215 : decode cX12_beside 215 = .ok (.goto (-56), 3) := by decide +kernel
theorem dX12_beside_218 : decode cX12_beside 218 = .ok (.iload_n 1, 1) := by decide +kernel
theorem dX12_beside_219 : decode cX12_beside 219 = .ok (.ifCond .eq 7, 3) := by decide +kernel
theorem dX12_beside_222 : decode cX12_beside 222 = .ok (.iconst 1, 1) := by decide +kernel
theorem dX12_beside_223 : decode cX12_beside 223 = .ok (.goto 4, 3) := by decide +kernel
theorem dX12_beside_226 : decode cX12_beside 226 = .ok (.iconst 0, 1) := by decide +kernel
theorem dX12_beside_227 : decode cX12_beside 227 = .ok (.ireturn, 1) := by decide +kernel
theorem dX12_count_0 : decode cX12_count 0 = .ok (.aload_n 0, 1) := by decide +kernel
theorem dX12_count_1 : decode cX12_count 1 = .ok (.iconst 0, 1) := by decide +kernel
theorem dX12_count_2 : decode cX12_count 2 = .ok (.putfield 113, 3) := by decide +kernel
theorem dX12_count_5 : decode cX12_count 5 = .ok (.iload_n 1, 1) := by decide +kernel
theorem dX12_count_6 : decode cX12_count 6 = .ok (.tableswitch 86 0 7 #[46, 51, 56, 61, 66, 71, 76, 81], 46) := by decide +kernel
theorem dX12_count_52 : decode cX12_count 52 = .ok (.aload_n 0, 1) := by decide +kernel
theorem dX12_count_53 : decode cX12_count 53 = .ok (.getfield 20, 3) := by decide +kernel
theorem dX12_count_56 : decode cX12_count 56 = .ok (.ireturn, 1) := by decide +kernel
theorem dX12_count_57 : decode cX12_count 57 = .ok (.aload_n 0, 1) := by decide +kernel
theorem dX12_count_58 : decode cX12_count 58 = .ok (.getfield 141, 3) := by decide +kernel
theorem dX12_count_61 : decode cX12_count 61 = .ok (.ireturn, 1) := by decide +kernel
theorem dX12_count_62 : decode cX12_count 62 = .ok (.aload_n 0, 1) := by decide +kernel
theorem dX12_count_63 : decode cX12_count 63 = .ok (.getfield 138, 3) := by decide +kernel
theorem dX12_count_66 : decode cX12_count 66 = .ok (.ireturn, 1) := by decide +kernel
theorem dX12_count_67 : decode cX12_count 67 = .ok (.aload_n 0, 1) := by decide +kernel
theorem dX12_count_68 : decode cX12_count 68 = .ok (.getfield 218, 3) := by decide +kernel
theorem dX12_count_71 : decode cX12_count 71 = .ok (.ireturn, 1) := by decide +kernel
theorem dX12_count_72 : decode cX12_count 72 = .ok (.aload_n 0, 1) := by decide +kernel
theorem dX12_count_73 : decode cX12_count 73 = .ok (.getfield 250, 3) := by decide +kernel
theorem dX12_count_76 : decode cX12_count 76 = .ok (.ireturn, 1) := by decide +kernel
theorem dX12_count_77 : decode cX12_count 77 = .ok (.aload_n 0, 1) := by decide +kernel
theorem dX12_count_78 : decode cX12_count 78 = .ok (.getfield 244, 3) := by decide +kernel
theorem dX12_count_81 : decode cX12_count 81 = .ok (.ireturn, 1) := by decide +kernel
theorem dX12_count_82 : decode cX12_count 82 = .ok (.aload_n 0, 1) := by decide +kernel
theorem dX12_count_83 : decode cX12_count 83 = .ok (.getfield 241, 3) := by decide +kernel
theorem dX12_count_86 : decode cX12_count 86 = .ok (.ireturn, 1) := by decide +kernel
theorem dX12_count_87 : decode cX12_count 87 = .ok (.aload_n 0, 1) := by decide +kernel
theorem dX12_count_88 : decode cX12_count 88 = .ok (.getfield 253, 3) := by decide +kernel
theorem dX12_count_91 : decode cX12_count 91 = .ok (.ireturn, 1) := by decide +kernel
theorem dX12_count_92 : decode cX12_count 92 = .ok (.iload_n 1, 1) := by decide +kernel
theorem dX12_count_93 : decode cX12_count 93 = .ok (.i2l, 1) := by decide +kernel
theorem dX12_count_94 : decode cX12_count 94 = .ok (.ldc2_w 128, 3) := by decide +kernel
theorem dX12_count_97 : decode cX12_count 97 = .ok (.ldc2_w 291, 3) := by decide +kernel
theorem dX12_count_100 : decode cX12_count 100 = .ok (.invokestatic 118, 3) := by decide +kernel
theorem dX12_count_103 : decode cX12_count 103 = .ok (.ifCond .eq 15, 3) := by decide +kernel
theorem dX12_count_106 : decode cX12_count 106 = .ok (.aload_n 0, 1) := by decide +kernel
theorem dX12_count_107 : decode cX12_count 107 = .ok (.getfield 53, 3) := by decide +kernel
theorem dX12_count_110 : decode cX12_count 110 = .ok (.iload_n 1, 1) := by decide +kernel
theorem dX12_count_111 : decode cX12_count 111 = .ok (.bipush 8, 2) := by decide +kernel
theorem dX12_count_113 : decode cX12_count 113 = .ok (.isub, 1) := by decide +kernel
theorem dX12_count_114 : decode cX12_count 114 = .ok (.iaload, 1) := by decide +kernel
theorem dX12_count_115 : decode cX12_count 115 = .ok (.goto 4, 3) := by decide +kernel
theorem dX12_count_118 : decode cX12_count 118 = .ok (.iconst (-1), 1) := by decide +kernel
theorem dX12_count_119 : decode cX12_count 119 = .ok (.ireturn, 1) := by decide +kernel
theorem dX12_isShelf_0 : decode cX12_isShelf 0 = .ok (.iload_n 0, 1) := by decide +kernel
theorem dX12_isShelf_1 : decode cX12_isShelf 1 = .ok (.ifCond .lt 13, 3) := by decide +kernel
theorem dX12_isShelf_4 : decode cX12_isShelf 4 = .ok (.iload_n 0, 1) := by decide +kernel
theorem dX12_isShelf_5 : decode cX12_isShelf 5 = .ok (.bipush 8, 2) := by decide +kernel
theorem dX12_isShelf_7 : decode cX12_isShelf 7 = .ok (.if_icmp .ge 7, 3) := by decide +kernel
theorem dX12_isShelf_10 : decode cX12_isShelf 10 = .ok (.iconst 1, 1) := by decide +kernel
theorem dX12_isShelf_11 : decode cX12_isShelf 11 = .ok (.goto 4, 3) := by decide +kernel
theorem dX12_isShelf_14 : decode cX12_isShelf 14 = .ok (.iconst 0, 1) := by decide +kernel
theorem dX12_isShelf_15 : decode cX12_isShelf 15 = .ok (.ireturn, 1) := by decide +kernel
theorem dX12_addressOf_0 : decode cX12_addressOf 0 = .ok (.bipush 64, 2) := by decide +kernel
theorem dX12_addressOf_2 : decode cX12_addressOf 2 = .ok (.iload_n 2, 1) := by decide +kernel
theorem dX12_addressOf_3 : decode cX12_addressOf 3 = .ok (.imul, 1) := by decide +kernel
theorem dX12_addressOf_4 : decode cX12_addressOf 4 = .ok (.bipush 16, 2) := by decide +kernel
theorem dX12_addressOf_6 : decode cX12_addressOf 6 = .ok (.iload_n 1, 1) := by decide +kernel
theorem dX12_addressOf_7 : decode cX12_addressOf 7 = .ok (.iload_n 2, 1) := by decide +kernel
theorem dX12_addressOf_8 : decode cX12_addressOf 8 = .ok (.iconst 4, 1) := by decide +kernel
theorem dX12_addressOf_9 : decode cX12_addressOf 9 = .ok (.irem, 1) := by decide +kernel
theorem dX12_addressOf_10 : decode cX12_addressOf 10 = .ok (.ixor, 1) := by decide +kernel
theorem dX12_addressOf_11 : decode cX12_addressOf 11 = .ok (.imul, 1) := by decide +kernel
theorem dX12_addressOf_12 : decode cX12_addressOf 12 = .ok (.iadd, 1) := by decide +kernel
theorem dX12_addressOf_13 : decode cX12_addressOf 13 = .ok (.iload_n 3, 1) := by decide +kernel
theorem dX12_addressOf_14 : decode cX12_addressOf 14 = .ok (.iadd, 1) := by decide +kernel
theorem dX12_addressOf_15 : decode cX12_addressOf 15 = .ok (.ireturn, 1) := by decide +kernel
theorem dX12_keep_0 : decode cX12_keep 0 = .ok (.aload_n 0, 1) := by decide +kernel
theorem dX12_keep_1 : decode cX12_keep 1 = .ok (.iconst 0, 1) := by decide +kernel
theorem dX12_keep_2 : decode cX12_keep 2 = .ok (.putfield 113, 3) := by decide +kernel
theorem dX12_keep_5 : decode cX12_keep 5 = .ok (.iload_n 1, 1) := by decide +kernel
theorem dX12_keep_6 : decode cX12_keep 6 = .ok (.invokestatic 293, 3) := by decide +kernel
theorem dX12_keep_9 : decode cX12_keep 9 = .ok (.ifCond .eq 46, 3) := by decide +kernel
theorem dX12_keep_12 : decode cX12_keep 12 = .ok (.iload_n 2, 1) := by decide +kernel
theorem dX12_keep_13 : decode cX12_keep 13 = .ok (.ifCond .eq 38, 3) := by decide +kernel
theorem dX12_keep_16 : decode cX12_keep 16 = .ok (.iload_n 2, 1) := by decide +kernel
theorem dX12_keep_17 : decode cX12_keep 17 = .ok (.iconst 1, 1) := by decide +kernel
theorem dX12_keep_18 : decode cX12_keep 18 = .ok (.if_icmp .ne 11, 3) := by decide +kernel
theorem dX12_keep_21 : decode cX12_keep 21 = .ok (.aload_n 0, 1) := by decide +kernel
theorem dX12_keep_22 : decode cX12_keep 22 = .ok (.iload_n 3, 1) := by decide +kernel
theorem dX12_keep_23 : decode cX12_keep 23 = .ok (.invokevirtual 276, 3) := by decide +kernel
theorem dX12_keep_26 : decode cX12_keep 26 = .ok (.ifCond .ne 25, 3) := by decide +kernel
theorem dX12_keep_29 : decode cX12_keep 29 = .ok (.iload_n 2, 1) := by decide +kernel
theorem dX12_keep_30 : decode cX12_keep 30 = .ok (.iconst 3, 1) := by decide +kernel
theorem dX12_keep_31 : decode cX12_keep 31 = .ok (.if_icmp .ne 15, 3) := by decide +kernel
theorem dX12_keep_34 : decode cX12_keep 34 = .ok (.iload_n 3, 1) := by decide +kernel
theorem dX12_keep_35 : decode cX12_keep 35 = .ok (.i2l, 1) := by decide +kernel
theorem dX12_keep_36 : decode cX12_keep 36 = .ok (.lconst 0, 1) := by decide +kernel
theorem dX12_keep_37 : decode cX12_keep 37 = .ok (.ldc2_w 296, 3) := by decide +kernel
theorem dX12_keep_40 : decode cX12_keep 40 = .ok (.invokestatic 118, 3) := by decide +kernel
theorem dX12_keep_43 : decode cX12_keep 43 = .ok (.ifCond .ne 8, 3) := by decide +kernel
theorem dX12_keep_46 : decode cX12_keep 46 = .ok (.iload_n 2, 1) := by decide +kernel
theorem dX12_keep_47 : decode cX12_keep 47 = .ok (.iconst 4, 1) := by decide +kernel
theorem dX12_keep_48 : decode cX12_keep 48 = .ok (.if_icmp .ne 7, 3) := by decide +kernel
theorem dX12_keep_51 : decode cX12_keep 51 = .ok (.iconst 1, 1) := by decide +kernel
theorem dX12_keep_52 : decode cX12_keep 52 = .ok (.goto 4, 3) := by decide +kernel
theorem dX12_keep_55 : decode cX12_keep 55 = .ok (.iconst 0, 1) := by decide +kernel
theorem dX12_keep_56 : decode cX12_keep 56 = .ok (.istore 4, 2) := by decide +kernel
theorem dX12_keep_58 : decode cX12_keep 58 = .ok (.iload 4, 2) := by decide +kernel
theorem dX12_keep_60 : decode cX12_keep 60 = .ok (.ifCond .ne 5, 3) := by decide +kernel
theorem dX12_keep_63 : decode cX12_keep 63 = .ok (.iconst (-1), 1) := by decide +kernel
theorem dX12_keep_64 : decode cX12_keep 64 = .ok (.ireturn, 1) := by decide +kernel
theorem dX12_keep_65 : decode cX12_keep 65 = .ok (.aload_n 0, 1) := by decide +kernel
theorem dX12_keep_66 : decode cX12_keep 66 = .ok (.getfield 98, 3) := by decide +kernel
theorem dX12_keep_69 : decode cX12_keep 69 = .ok (.iload_n 1, 1) := by decide +kernel
theorem dX12_keep_70 : decode cX12_keep 70 = .ok (.iload_n 2, 1) := by decide +kernel
theorem dX12_keep_71 : decode cX12_keep 71 = .ok (.iastore, 1) := by decide +kernel
theorem dX12_keep_72 : decode cX12_keep 72 = .ok (.aload_n 0, 1) := by decide +kernel
theorem dX12_keep_73 : decode cX12_keep 73 = .ok (.getfield 104, 3) := by decide +kernel
theorem dX12_keep_76 : decode cX12_keep 76 = .ok (.iload_n 1, 1) := by decide +kernel
theorem dX12_keep_77 : decode cX12_keep 77 = .ok (.iload_n 3, 1) := by decide +kernel
theorem dX12_keep_78 : decode cX12_keep 78 = .ok (.iastore, 1) := by decide +kernel
theorem dX12_keep_79 : decode cX12_keep 79 = .ok (.aload_n 0, 1) := by decide +kernel
theorem dX12_keep_80 : decode cX12_keep 80 = .ok (.getfield 101, 3) := by decide +kernel
theorem dX12_keep_83 : decode cX12_keep 83 = .ok (.iload_n 1, 1) := by decide +kernel
theorem dX12_keep_84 : decode cX12_keep 84 = .ok (.iload_n 2, 1) := by decide +kernel
theorem dX12_keep_85 : decode cX12_keep 85 = .ok (.iconst 3, 1) := by decide +kernel
theorem dX12_keep_86 : decode cX12_keep 86 = .ok (.if_icmp .ne 8, 3) := by decide +kernel
theorem dX12_keep_89 : decode cX12_keep 89 = .ok (.bipush 16, 2) := by decide +kernel
theorem dX12_keep_91 : decode cX12_keep 91 = .ok (.goto 14, 3) := by decide +kernel
theorem dX12_keep_94 : decode cX12_keep 94 = .ok (.iload_n 2, 1) := by decide +kernel
theorem dX12_keep_95 : decode cX12_keep 95 = .ok (.iconst 4, 1) := by decide +kernel
theorem dX12_keep_96 : decode cX12_keep 96 = .ok (.if_icmp .ne 8, 3) := by decide +kernel
theorem dX12_keep_99 : decode cX12_keep 99 = .ok (.bipush 13, 2) := by decide +kernel
theorem dX12_keep_101 : decode cX12_keep 101 = .ok (.goto 4, 3) := by decide +kernel
theorem dX12_keep_104 : decode cX12_keep 104 = .ok (.iconst 0, 1) := by decide +kernel
theorem dX12_keep_105 : decode cX12_keep 105 = .ok (.iastore, 1) := by decide +kernel
theorem dX12_keep_106 : decode cX12_keep 106 = .ok (.iconst 0, 1) := by decide +kernel
theorem dX12_keep_107 : decode cX12_keep 107 = .ok (.istore 5, 2) := by decide +kernel
theorem dX12_keep_109 : decode cX12_keep 109 = .ok (.iload 5, 2) := by decide +kernel
theorem dX12_keep_111 : decode cX12_keep 111 = .ok (.aload_n 0, 1) := by decide +kernel
theorem dX12_keep_112 : decode cX12_keep 112 = .ok (.getfield 101, 3) := by decide +kernel
theorem dX12_keep_115 : decode cX12_keep 115 = .ok (.iload_n 1, 1) := by decide +kernel
theorem dX12_keep_116 : decode cX12_keep 116 = .ok (.iaload, 1) := by decide +kernel
theorem dX12_keep_117 : decode cX12_keep 117 = .ok (.if_icmp .ge 59, 3) := by decide +kernel
theorem dX12_keep_120 : decode cX12_keep 120 = .ok (.aload_n 0, 1) := by decide +kernel
theorem dX12_keep_121 : decode cX12_keep 121 = .ok (.getfield 107, 3) := by decide +kernel
theorem dX12_keep_124 : decode cX12_keep 124 = .ok (.bipush 60, 2) := by decide +kernel
theorem dX12_keep_126 : decode cX12_keep 126 = .ok (.iload_n 1, 1) := by decide +kernel
theorem dX12_keep_127 : decode cX12_keep 127 = .ok (.imul, 1) := by decide +kernel
theorem dX12_keep_128 : decode cX12_keep 128 = .ok (.iload 5, 2) := by decide +kernel
theorem dX12_keep_130 : decode cX12_keep 130 = .ok (.iadd, 1) := by decide +kernel
theorem dX12_keep_131 : decode cX12_keep 131 = .ok (.iload_n 2, 1) := by decide +kernel
theorem dX12_keep_132 : decode cX12_keep 132 = .ok (.iconst 4, 1) := by decide +kernel
theorem dX12_keep_133 : decode cX12_keep 133 = .ok (.if_icmp .ne 13, 3) := by decide +kernel
theorem dX12_keep_136 : decode cX12_keep 136 = .ok (.aload_n 0, 1) := by decide +kernel
theorem dX12_keep_137 : decode cX12_keep 137 = .ok (.getfield 7, 3) := by decide +kernel
theorem dX12_keep_140 : decode cX12_keep 140 = .ok (.iload 5, 2) := by decide +kernel
theorem dX12_keep_142 : decode cX12_keep 142 = .ok (.iaload, 1) := by decide +kernel
theorem dX12_keep_143 : decode cX12_keep 143 = .ok (.goto 26, 3) := by decide +kernel
theorem dX12_keep_146 : decode cX12_keep 146 = .ok (.aload_n 0, 1) := by decide +kernel
theorem dX12_keep_147 : decode cX12_keep 147 = .ok (.getfield 26, 3) := by decide +kernel
theorem dX12_keep_150 : decode cX12_keep 150 = .ok (.aload_n 0, 1) := by decide +kernel
theorem dX12_keep_151 : decode cX12_keep 151 = .ok (.iload_n 3, 1) := by decide +kernel
theorem dX12_keep_152 : decode cX12_keep 152 = .ok (.bipush 16, 2) := by decide +kernel
theorem dX12_keep_154 : decode cX12_keep 154 = .ok (.idiv, 1) := by decide +kernel
theorem dX12_keep_155 : decode cX12_keep 155 = .ok (.iload_n 3, 1) := by decide +kernel
theorem dX12_keep_156 : decode cX12_keep 156 = .ok (.bipush 16, 2) := by decide +kernel
theorem dX12_keep_158 : decode cX12_keep 158 = .ok (.irem, 1) := by decide +kernel
theorem dX12_keep_159 : decode cX12_keep 159 = .ok (.iload 5, 2) := by decide +kernel
theorem dX12_keep_161 : decode cX12_keep 161 = .ok (.invokevirtual 298, 3) := by decide +kernel
theorem dX12_keep_164 : decode cX12_keep 164 = .ok (.iaload, 1) := by decide +kernel
theorem dX12_keep_165 : decode cX12_keep 165 = .ok (.sipush 128, 3) := by decide +kernel
theorem dX12_keep_168 : decode cX12_keep 168 = .ok (.isub, 1) := by decide +kernel
theorem dX12_keep_169 : decode cX12_keep 169 = .ok (.iastore, 1) := by decide +kernel
theorem dX12_keep_170 : decode cX12_keep 170 = .ok (.iinc 5 1, 3) := by decide +kernel
theorem dX12_keep_173 : decode cX12_keep 173 = .ok (.goto (-64), 3) := by decide +kernel
theorem dX12_keep_176 : decode cX12_keep 176 = .ok (.iconst 0, 1) := by decide +kernel
theorem dX12_keep_177 : decode cX12_keep 177 = .ok (.ireturn, 1) := by decide +kernel
theorem dX12_make_0 : decode cX12_make 0 = .ok (.aload_n 0, 1) := by decide +kernel
theorem dX12_make_1 : decode cX12_make 1 = .ok (.iconst 0, 1) := by decide +kernel
theorem dX12_make_2 : decode cX12_make 2 = .ok (.putfield 113, 3) := by decide +kernel
theorem dX12_make_5 : decode cX12_make 5 = .ok (.iload_n 1, 1) := by decide +kernel
theorem dX12_make_6 : decode cX12_make 6 = .ok (.invokestatic 293, 3) := by decide +kernel
theorem dX12_make_9 : decode cX12_make 9 = .ok (.ifCond .eq 23, 3) := by decide +kernel
theorem dX12_make_12 : decode cX12_make 12 = .ok (.iload_n 2, 1) := by decide +kernel
theorem dX12_make_13 : decode cX12_make 13 = .ok (.i2l, 1) := by decide +kernel
theorem dX12_make_14 : decode cX12_make 14 = .ok (.ldc2_w 150, 3) := by decide +kernel
theorem dX12_make_17 : decode cX12_make 17 = .ok (.ldc2_w 281, 3) := by decide +kernel
theorem dX12_make_20 : decode cX12_make 20 = .ok (.invokestatic 118, 3) := by decide +kernel
theorem dX12_make_23 : decode cX12_make 23 = .ok (.ifCond .eq 9, 3) := by decide +kernel
theorem dX12_make_26 : decode cX12_make 26 = .ok (.iload_n 3, 1) := by decide +kernel
theorem dX12_make_27 : decode cX12_make 27 = .ok (.bipush 60, 2) := by decide +kernel
theorem dX12_make_29 : decode cX12_make 29 = .ok (.if_icmp .le 5, 3) := by decide +kernel
theorem dX12_make_32 : decode cX12_make 32 = .ok (.iconst (-1), 1) := by decide +kernel
theorem dX12_make_33 : decode cX12_make 33 = .ok (.ireturn, 1) := by decide +kernel
theorem dX12_make_34 : decode cX12_make 34 = .ok (.iload_n 3, 1) := by decide +kernel
theorem dX12_make_35 : decode cX12_make 35 = .ok (.ifCond .ge 6, 3) := by decide +kernel
theorem dX12_make_38 : decode cX12_make 38 = .ok (.bipush (-14), 2) := by decide +kernel
theorem dX12_make_40 : decode cX12_make 40 = .ok (.ireturn, 1) := by decide +kernel
theorem dX12_make_41 : decode cX12_make 41 = .ok (.aload_n 0, 1) := by decide +kernel
theorem dX12_make_42 : decode cX12_make 42 = .ok (.getfield 98, 3) := by decide +kernel
theorem dX12_make_45 : decode cX12_make 45 = .ok (.iload_n 1, 1) := by decide +kernel
theorem dX12_make_46 : decode cX12_make 46 = .ok (.iload_n 2, 1) := by decide +kernel
theorem dX12_make_47 : decode cX12_make 47 = .ok (.iastore, 1) := by decide +kernel
theorem dX12_make_48 : decode cX12_make 48 = .ok (.aload_n 0, 1) := by decide +kernel
theorem dX12_make_49 : decode cX12_make 49 = .ok (.getfield 101, 3) := by decide +kernel
theorem dX12_make_52 : decode cX12_make 52 = .ok (.iload_n 1, 1) := by decide +kernel
theorem dX12_make_53 : decode cX12_make 53 = .ok (.iload_n 3, 1) := by decide +kernel
theorem dX12_make_54 : decode cX12_make 54 = .ok (.iastore, 1) := by decide +kernel
theorem dX12_make_55 : decode cX12_make 55 = .ok (.iconst 0, 1) := by decide +kernel
theorem dX12_make_56 : decode cX12_make 56 = .ok (.istore 4, 2) := by decide +kernel
theorem dX12_make_58 : decode cX12_make 58 = .ok (.iload 4, 2) := by decide +kernel
theorem dX12_make_60 : decode cX12_make 60 = .ok (.iload_n 3, 1) := by decide +kernel
theorem dX12_make_61 : decode cX12_make 61 = .ok (.if_icmp .ge 22, 3) := by decide +kernel
theorem dX12_make_64 : decode cX12_make 64 = .ok (.aload_n 0, 1) := by decide +kernel
theorem dX12_make_65 : decode cX12_make 65 = .ok (.getfield 107, 3) := by decide +kernel
theorem dX12_make_68 : decode cX12_make 68 = .ok (.bipush 60, 2) := by decide +kernel
theorem dX12_make_70 : decode cX12_make 70 = .ok (.iload_n 1, 1) := by decide +kernel
theorem dX12_make_71 : decode cX12_make 71 = .ok (.imul, 1) := by decide +kernel
theorem dX12_make_72 : decode cX12_make 72 = .ok (.iload 4, 2) := by decide +kernel
theorem dX12_make_74 : decode cX12_make 74 = .ok (.iadd, 1) := by decide +kernel
theorem dX12_make_75 : decode cX12_make 75 = .ok (.iconst 0, 1) := by decide +kernel
theorem dX12_make_76 : decode cX12_make 76 = .ok (.iastore, 1) := by decide +kernel
theorem dX12_make_77 : decode cX12_make 77 = .ok (.iinc 4 1, 3) := by decide +kernel
theorem dX12_make_80 : decode cX12_make 80 = .ok (.goto (-22), 3) := by decide +kernel
theorem dX12_make_83 : decode cX12_make 83 = .ok (.iconst 0, 1) := by decide +kernel
theorem dX12_make_84 : decode cX12_make 84 = .ok (.ireturn, 1) := by decide +kernel
theorem dX12_element_0 : decode cX12_element 0 = .ok (.iload_n 1, 1) := by decide +kernel
theorem dX12_element_1 : decode cX12_element 1 = .ok (.invokestatic 293, 3) := by decide +kernel
theorem dX12_element_4 : decode cX12_element 4 = .ok (.ifCond .eq 35, 3) := by decide +kernel
theorem dX12_element_7 : decode cX12_element 7 = .ok (.aload_n 0, 1) := by decide +kernel
theorem dX12_element_8 : decode cX12_element 8 = .ok (.getfield 98, 3) := by decide +kernel
theorem dX12_element_11 : decode cX12_element 11 = .ok (.iload_n 1, 1) := by decide +kernel
theorem dX12_element_12 : decode cX12_element 12 = .ok (.iaload, 1) := by decide +kernel
theorem dX12_element_13 : decode cX12_element 13 = .ok (.iconst 2, 1) := by decide +kernel
theorem dX12_element_14 : decode cX12_element 14 = .ok (.if_icmp .le 25, 3) := by decide +kernel
theorem dX12_element_17 : decode cX12_element 17 = .ok (.iload_n 2, 1) := by decide +kernel
theorem dX12_element_18 : decode cX12_element 18 = .ok (.i2l, 1) := by decide +kernel
theorem dX12_element_19 : decode cX12_element 19 = .ok (.lconst 0, 1) := by decide +kernel
theorem dX12_element_20 : decode cX12_element 20 = .ok (.aload_n 0, 1) := by decide +kernel
theorem dX12_element_21 : decode cX12_element 21 = .ok (.getfield 101, 3) := by decide +kernel
theorem dX12_element_24 : decode cX12_element 24 = .ok (.iload_n 1, 1) := by decide +kernel
theorem dX12_element_25 : decode cX12_element 25 = .ok (.iaload, 1) := by decide +kernel
theorem dX12_element_26 : decode cX12_element 26 = .ok (.iconst 1, 1) := by decide +kernel
theorem dX12_element_27 : decode cX12_element 27 = .ok (.isub, 1) := by decide +kernel
theorem dX12_element_28 : decode cX12_element 28 = .ok (.i2l, 1) := by decide +kernel
theorem dX12_element_29 : decode cX12_element 29 = .ok (.invokestatic 118, 3) := by decide +kernel
theorem dX12_element_32 : decode cX12_element 32 = .ok (.ifCond .eq 7, 3) := by decide +kernel
theorem dX12_element_35 : decode cX12_element 35 = .ok (.iconst 1, 1) := by decide +kernel
theorem dX12_element_36 : decode cX12_element 36 = .ok (.goto 4, 3) := by decide +kernel
theorem dX12_element_39 : decode cX12_element 39 = .ok (.iconst 0, 1) := by decide +kernel
theorem dX12_element_40 : decode cX12_element 40 = .ok (.istore_n 3, 1) := by decide +kernel
theorem dX12_element_41 : decode cX12_element 41 = .ok (.aload_n 0, 1) := by decide +kernel
theorem dX12_element_42 : decode cX12_element 42 = .ok (.iload_n 1, 1) := by decide +kernel
theorem dX12_element_43 : decode cX12_element 43 = .ok (.invokestatic 293, 3) := by decide +kernel
theorem dX12_element_46 : decode cX12_element 46 = .ok (.ifCond .ne 7, 3) := by decide +kernel
theorem dX12_element_49 : decode cX12_element 49 = .ok (.iconst 1, 1) := by decide +kernel
theorem dX12_element_50 : decode cX12_element 50 = .ok (.goto 12, 3) := by decide +kernel
theorem dX12_element_53 : decode cX12_element 53 = .ok (.iload_n 3, 1) := by decide +kernel
theorem dX12_element_54 : decode cX12_element 54 = .ok (.ifCond .eq 7, 3) := by decide +kernel
theorem dX12_element_57 : decode cX12_element 57 = .ok (.iconst 0, 1) := by decide +kernel
theorem dX12_element_58 : decode cX12_element 58 = .ok (.goto 4, 3) := by decide +kernel
theorem dX12_element_61 : decode cX12_element 61 = .ok (.iconst 2, 1) := by decide +kernel
theorem dX12_element_62 : decode cX12_element 62 = .ok (.putfield 113, 3) := by decide +kernel
theorem dX12_element_65 : decode cX12_element 65 = .ok (.iload_n 3, 1) := by decide +kernel
theorem dX12_element_66 : decode cX12_element 66 = .ok (.ifCond .eq 18, 3) := by decide +kernel
theorem dX12_element_69 : decode cX12_element 69 = .ok (.aload_n 0, 1) := by decide +kernel
theorem dX12_element_70 : decode cX12_element 70 = .ok (.getfield 107, 3) := by decide +kernel
theorem dX12_element_73 : decode cX12_element 73 = .ok (.bipush 60, 2) := by decide +kernel
theorem dX12_element_75 : decode cX12_element 75 = .ok (.iload_n 1, 1) := by decide +kernel
theorem dX12_element_76 : decode cX12_element 76 = .ok (.imul, 1) := by decide +kernel
theorem dX12_element_77 : decode cX12_element 77 = .ok (.iload_n 2, 1) := by decide +kernel
theorem dX12_element_78 : decode cX12_element 78 = .ok (.iadd, 1) := by decide +kernel
theorem dX12_element_79 : decode cX12_element 79 = .ok (.iaload, 1) := by decide +kernel
theorem dX12_element_80 : decode cX12_element 80 = .ok (.i2l, 1) := by decide +kernel
theorem dX12_element_81 : decode cX12_element 81 = .ok (.goto 4, 3) := by decide +kernel
theorem dX12_element_84 : decode cX12_element 84 = .ok (.lconst 0, 1) := by decide +kernel
theorem dX12_element_85 : decode cX12_element 85 = .ok (.lreturn, 1) := by decide +kernel
theorem dX12_hasPlaces_0 : decode cX12_hasPlaces 0 = .ok (.iload_n 3, 1) := by decide +kernel
theorem dX12_hasPlaces_1 : decode cX12_hasPlaces 1 = .ok (.ifCond .lt 33, 3) := by decide +kernel
theorem dX12_hasPlaces_4 : decode cX12_hasPlaces 4 = .ok (.iload_n 2, 1) := by decide +kernel
theorem dX12_hasPlaces_5 : decode cX12_hasPlaces 5 = .ok (.ifCond .lt 29, 3) := by decide +kernel
theorem dX12_hasPlaces_8 : decode cX12_hasPlaces 8 = .ok (.iload_n 2, 1) := by decide +kernel
theorem dX12_hasPlaces_9 : decode cX12_hasPlaces 9 = .ok (.aload_n 0, 1) := by decide +kernel
theorem dX12_hasPlaces_10 : decode cX12_hasPlaces 10 = .ok (.getfield 101, 3) := by decide +kernel
theorem dX12_hasPlaces_13 : decode cX12_hasPlaces 13 = .ok (.iload_n 1, 1) := by decide +kernel
theorem dX12_hasPlaces_14 : decode cX12_hasPlaces 14 = .ok (.iaload, 1) := by decide +kernel
theorem dX12_hasPlaces_15 : decode cX12_hasPlaces 15 = .ok (.if_icmp .gt 19, 3) := by decide +kernel
theorem dX12_hasPlaces_18 : decode cX12_hasPlaces 18 = .ok (.iload_n 3, 1) := by decide +kernel
theorem dX12_hasPlaces_19 : decode cX12_hasPlaces 19 = .ok (.aload_n 0, 1) := by decide +kernel
theorem dX12_hasPlaces_20 : decode cX12_hasPlaces 20 = .ok (.getfield 101, 3) := by decide +kernel
theorem dX12_hasPlaces_23 : decode cX12_hasPlaces 23 = .ok (.iload_n 1, 1) := by decide +kernel
theorem dX12_hasPlaces_24 : decode cX12_hasPlaces 24 = .ok (.iaload, 1) := by decide +kernel
theorem dX12_hasPlaces_25 : decode cX12_hasPlaces 25 = .ok (.iload_n 2, 1) := by decide +kernel
theorem dX12_hasPlaces_26 : decode cX12_hasPlaces 26 = .ok (.isub, 1) := by decide +kernel
theorem dX12_hasPlaces_27 : decode cX12_hasPlaces 27 = .ok (.if_icmp .gt 7, 3) := by decide +kernel
theorem dX12_hasPlaces_30 : decode cX12_hasPlaces 30 = .ok (.iconst 1, 1) := by decide +kernel
theorem dX12_hasPlaces_31 : decode cX12_hasPlaces 31 = .ok (.goto 4, 3) := by decide +kernel
theorem dX12_hasPlaces_34 : decode cX12_hasPlaces 34 = .ok (.iconst 0, 1) := by decide +kernel
theorem dX12_hasPlaces_35 : decode cX12_hasPlaces 35 = .ok (.ireturn, 1) := by decide +kernel
theorem dX12_copy_0 : decode cX12_copy 0 = .ok (.aload_n 0, 1) := by decide +kernel
theorem dX12_copy_1 : decode cX12_copy 1 = .ok (.iconst 0, 1) := by decide +kernel
theorem dX12_copy_2 : decode cX12_copy 2 = .ok (.putfield 113, 3) := by decide +kernel
theorem dX12_copy_5 : decode cX12_copy 5 = .ok (.iload_n 1, 1) := by decide +kernel
theorem dX12_copy_6 : decode cX12_copy 6 = .ok (.invokestatic 293, 3) := by decide +kernel
theorem dX12_copy_9 : decode cX12_copy 9 = .ok (.ifCond .eq 10, 3) := by decide +kernel
theorem dX12_copy_12 : decode cX12_copy 12 = .ok (.iload_n 3, 1) := by decide +kernel
theorem dX12_copy_13 : decode cX12_copy 13 = .ok (.invokestatic 293, 3) := by decide +kernel
theorem dX12_copy_16 : decode cX12_copy 16 = .ok (.ifCond .ne 5, 3) := by decide +kernel
theorem dX12_copy_19 : decode cX12_copy 19 = .ok (.iconst (-1), 1) := by decide +kernel
theorem dX12_copy_20 : decode cX12_copy 20 = .ok (.ireturn, 1) := by decide +kernel
theorem dX12_copy_21 : decode cX12_copy 21 = .ok (.aload_n 0, 1) := by decide +kernel
theorem dX12_copy_22 : decode cX12_copy 22 = .ok (.getfield 98, 3) := by decide +kernel
theorem dX12_copy_25 : decode cX12_copy 25 = .ok (.iload_n 1, 1) := by decide +kernel
theorem dX12_copy_26 : decode cX12_copy 26 = .ok (.iaload, 1) := by decide +kernel
theorem dX12_copy_27 : decode cX12_copy 27 = .ok (.ifCond .eq 12, 3) := by decide +kernel
theorem dX12_copy_30 : decode cX12_copy 30 = .ok (.aload_n 0, 1) := by decide +kernel
theorem dX12_copy_31 : decode cX12_copy 31 = .ok (.getfield 98, 3) := by decide +kernel
theorem dX12_copy_34 : decode cX12_copy 34 = .ok (.iload_n 3, 1) := by decide +kernel
theorem dX12_copy_35 : decode cX12_copy 35 = .ok (.iaload, 1) := by decide +kernel
theorem dX12_copy_36 : decode cX12_copy 36 = .ok (.ifCond .ne 6, 3) := by decide +kernel
theorem dX12_copy_39 : decode cX12_copy 39 = .ok (.bipush (-11), 2) := by decide +kernel
theorem dX12_copy_41 : decode cX12_copy 41 = .ok (.ireturn, 1) := by decide +kernel
theorem dX12_copy_42 : decode cX12_copy 42 = .ok (.aload_n 0, 1) := by decide +kernel
theorem dX12_copy_43 : decode cX12_copy 43 = .ok (.getfield 98, 3) := by decide +kernel
theorem dX12_copy_46 : decode cX12_copy 46 = .ok (.iload_n 1, 1) := by decide +kernel
theorem dX12_copy_47 : decode cX12_copy 47 = .ok (.iaload, 1) := by decide +kernel
theorem dX12_copy_48 : decode cX12_copy 48 = .ok (.iconst 3, 1) := by decide +kernel
theorem dX12_copy_49 : decode cX12_copy 49 = .ok (.if_icmp .lt 18, 3) := by decide +kernel
theorem dX12_copy_52 : decode cX12_copy 52 = .ok (.aload_n 0, 1) := by decide +kernel
theorem dX12_copy_53 : decode cX12_copy 53 = .ok (.getfield 98, 3) := by decide +kernel
theorem dX12_copy_56 : decode cX12_copy 56 = .ok (.iload_n 1, 1) := by decide +kernel
theorem dX12_copy_57 : decode cX12_copy 57 = .ok (.iaload, 1) := by decide +kernel
theorem dX12_copy_58 : decode cX12_copy 58 = .ok (.aload_n 0, 1) := by decide +kernel
theorem dX12_copy_59 : decode cX12_copy 59 = .ok (.getfield 98, 3) := by decide +kernel
theorem dX12_copy_62 : decode cX12_copy 62 = .ok (.iload_n 3, 1) := by decide +kernel
theorem dX12_copy_63 : decode cX12_copy 63 = .ok (.iaload, 1) := by decide +kernel
theorem dX12_copy_64 : decode cX12_copy 64 = .ok (.if_icmp .eq 6, 3) := by decide +kernel
theorem dX12_copy_67 : decode cX12_copy 67 = .ok (.bipush (-12), 2) := by decide +kernel
theorem dX12_copy_69 : decode cX12_copy 69 = .ok (.ireturn, 1) := by decide +kernel
theorem dX12_copy_70 : decode cX12_copy 70 = .ok (.aload_n 0, 1) := by decide +kernel
theorem dX12_copy_71 : decode cX12_copy 71 = .ok (.iload_n 1, 1) := by decide +kernel
theorem dX12_copy_72 : decode cX12_copy 72 = .ok (.iload_n 2, 1) := by decide +kernel
theorem dX12_copy_73 : decode cX12_copy 73 = .ok (.iload 5, 2) := by decide +kernel
theorem dX12_copy_75 : decode cX12_copy 75 = .ok (.invokevirtual 302, 3) := by decide +kernel
theorem dX12_copy_78 : decode cX12_copy 78 = .ok (.ifCond .eq 15, 3) := by decide +kernel
theorem dX12_copy_81 : decode cX12_copy 81 = .ok (.aload_n 0, 1) := by decide +kernel
theorem dX12_copy_82 : decode cX12_copy 82 = .ok (.iload_n 3, 1) := by decide +kernel
theorem dX12_copy_83 : decode cX12_copy 83 = .ok (.iload 4, 2) := by decide +kernel
theorem dX12_copy_85 : decode cX12_copy 85 = .ok (.iload 5, 2) := by decide +kernel
theorem dX12_copy_87 : decode cX12_copy 87 = .ok (.invokevirtual 302, 3) := by decide +kernel
theorem dX12_copy_90 : decode cX12_copy 90 = .ok (.ifCond .ne 6, 3) := by decide +kernel
theorem dX12_copy_93 : decode cX12_copy 93 = .ok (.bipush (-13), 2) := by decide +kernel
theorem dX12_copy_95 : decode cX12_copy 95 = .ok (.ireturn, 1) := by decide +kernel
theorem dX12_copy_96 : decode cX12_copy 96 = .ok (.iconst 0, 1) := by decide +kernel
theorem dX12_copy_97 : decode cX12_copy 97 = .ok (.istore 6, 2) := by decide +kernel
theorem dX12_copy_99 : decode cX12_copy 99 = .ok (.iload 6, 2) := by decide +kernel
theorem dX12_copy_101 : decode cX12_copy 101 = .ok (.iload 5, 2) := by decide +kernel
theorem dX12_copy_103 : decode cX12_copy 103 = .ok (.if_icmp .ge 30, 3) := by decide +kernel
theorem dX12_copy_106 : decode cX12_copy 106 = .ok (.aload_n 0, 1) := by decide +kernel
theorem dX12_copy_107 : decode cX12_copy 107 = .ok (.getfield 110, 3) := by decide +kernel
theorem dX12_copy_110 : decode cX12_copy 110 = .ok (.iload 6, 2) := by decide +kernel
theorem dX12_copy_112 : decode cX12_copy 112 = .ok (.aload_n 0, 1) := by decide +kernel
theorem dX12_copy_113 : decode cX12_copy 113 = .ok (.getfield 107, 3) := by decide +kernel
theorem dX12_copy_116 : decode cX12_copy 116 = .ok (.bipush 60, 2) := by decide +kernel
theorem dX12_copy_118 : decode cX12_copy 118 = .ok (.iload_n 1, 1) := by decide +kernel
theorem dX12_copy_119 : decode cX12_copy 119 = .ok (.imul, 1) := by decide +kernel
theorem dX12_copy_120 : decode cX12_copy 120 = .ok (.iload_n 2, 1) := by decide +kernel
theorem dX12_copy_121 : decode cX12_copy 121 = .ok (.iadd, 1) := by decide +kernel
theorem dX12_copy_122 : decode cX12_copy 122 = .ok (.iload 6, 2) := by decide +kernel
theorem dX12_copy_124 : decode cX12_copy 124 = .ok (.iadd, 1) := by decide +kernel
theorem dX12_copy_125 : decode cX12_copy 125 = .ok (.iaload, 1) := by decide +kernel
theorem dX12_copy_126 : decode cX12_copy 126 = .ok (.iastore, 1) := by decide +kernel
theorem dX12_copy_127 : decode cX12_copy 127 = .ok (.iinc 6 1, 3) := by decide +kernel
theorem dX12_copy_130 : decode cX12_copy 130 = .ok (.goto (-31), 3) := by decide +kernel
theorem dX12_copy_133 : decode cX12_copy 133 = .ok (.iconst 0, 1) := by decide +kernel
theorem dX12_copy_134 : decode cX12_copy 134 = .ok (.istore 6, 2) := by decide +kernel
theorem dX12_copy_136 : decode cX12_copy 136 = .ok (.iload 6, 2) := by decide +kernel
theorem dX12_copy_138 : decode cX12_copy 138 = .ok (.iload 5, 2) := by decide +kernel
theorem dX12_copy_140 : decode cX12_copy 140 = .ok (.if_icmp .ge 31, 3) := by decide +kernel
theorem dX12_copy_143 : decode cX12_copy 143 = .ok (.aload_n 0, 1) := by decide +kernel
theorem dX12_copy_144 : decode cX12_copy 144 = .ok (.getfield 107, 3) := by decide +kernel
theorem dX12_copy_147 : decode cX12_copy 147 = .ok (.bipush 60, 2) := by decide +kernel
theorem dX12_copy_149 : decode cX12_copy 149 = .ok (.iload_n 3, 1) := by decide +kernel
theorem dX12_copy_150 : decode cX12_copy 150 = .ok (.imul, 1) := by decide +kernel
theorem dX12_copy_151 : decode cX12_copy 151 = .ok (.iload 4, 2) := by decide +kernel
theorem dX12_copy_153 : decode cX12_copy 153 = .ok (.iadd, 1) := by decide +kernel
theorem dX12_copy_154 : decode cX12_copy 154 = .ok (.iload 6, 2) := by decide +kernel
theorem dX12_copy_156 : decode cX12_copy 156 = .ok (.iadd, 1) := by decide +kernel
theorem dX12_copy_157 : decode cX12_copy 157 = .ok (.aload_n 0, 1) := by decide +kernel
theorem dX12_copy_158 : decode cX12_copy 158 = .ok (.getfield 110, 3) := by decide +kernel
theorem dX12_copy_161 : decode cX12_copy 161 = .ok (.iload 6, 2) := by decide +kernel
theorem dX12_copy_163 : decode cX12_copy 163 = .ok (.iaload, 1) := by decide +kernel
theorem dX12_copy_164 : decode cX12_copy 164 = .ok (.iastore, 1) := by decide +kernel
theorem dX12_copy_165 : decode cX12_copy 165 = .ok (.iinc 6 1, 3) := by decide +kernel
theorem dX12_copy_168 : decode cX12_copy 168 = .ok (.goto (-32), 3) := by decide +kernel
theorem dX12_copy_171 : decode cX12_copy 171 = .ok (.iload 5, 2) := by decide +kernel
theorem dX12_copy_173 : decode cX12_copy 173 = .ok (.ireturn, 1) := by decide +kernel
theorem dX12_denied_0 : decode cX12_denied 0 = .ok (.iload_n 1, 1) := by decide +kernel
theorem dX12_denied_1 : decode cX12_denied 1 = .ok (.invokestatic 293, 3) := by decide +kernel
theorem dX12_denied_4 : decode cX12_denied 4 = .ok (.ifCond .ne 7, 3) := by decide +kernel
theorem dX12_denied_7 : decode cX12_denied 7 = .ok (.iconst (-1), 1) := by decide +kernel
theorem dX12_denied_8 : decode cX12_denied 8 = .ok (.goto 33, 3) := by decide +kernel
theorem dX12_denied_11 : decode cX12_denied 11 = .ok (.aload_n 0, 1) := by decide +kernel
theorem dX12_denied_12 : decode cX12_denied 12 = .ok (.getfield 98, 3) := by decide +kernel
theorem dX12_denied_15 : decode cX12_denied 15 = .ok (.iload_n 1, 1) := by decide +kernel
theorem dX12_denied_16 : decode cX12_denied 16 = .ok (.iaload, 1) := by decide +kernel
theorem dX12_denied_17 : decode cX12_denied 17 = .ok (.ifCond .ne 8, 3) := by decide +kernel
theorem dX12_denied_20 : decode cX12_denied 20 = .ok (.bipush (-11), 2) := by decide +kernel
theorem dX12_denied_22 : decode cX12_denied 22 = .ok (.goto 19, 3) := by decide +kernel
theorem dX12_denied_25 : decode cX12_denied 25 = .ok (.aload_n 0, 1) := by decide +kernel
theorem dX12_denied_26 : decode cX12_denied 26 = .ok (.getfield 98, 3) := by decide +kernel
theorem dX12_denied_29 : decode cX12_denied 29 = .ok (.iload_n 1, 1) := by decide +kernel
theorem dX12_denied_30 : decode cX12_denied 30 = .ok (.iaload, 1) := by decide +kernel
theorem dX12_denied_31 : decode cX12_denied 31 = .ok (.iconst 1, 1) := by decide +kernel
theorem dX12_denied_32 : decode cX12_denied 32 = .ok (.if_icmp .le 8, 3) := by decide +kernel
theorem dX12_denied_35 : decode cX12_denied 35 = .ok (.bipush (-12), 2) := by decide +kernel
theorem dX12_denied_37 : decode cX12_denied 37 = .ok (.goto 4, 3) := by decide +kernel
theorem dX12_denied_40 : decode cX12_denied 40 = .ok (.iconst 0, 1) := by decide +kernel
theorem dX12_denied_41 : decode cX12_denied 41 = .ok (.ireturn, 1) := by decide +kernel
theorem dX12_weight_0 : decode cX12_weight 0 = .ok (.aload_n 0, 1) := by decide +kernel
theorem dX12_weight_1 : decode cX12_weight 1 = .ok (.iconst 0, 1) := by decide +kernel
theorem dX12_weight_2 : decode cX12_weight 2 = .ok (.putfield 113, 3) := by decide +kernel
theorem dX12_weight_5 : decode cX12_weight 5 = .ok (.aload_n 0, 1) := by decide +kernel
theorem dX12_weight_6 : decode cX12_weight 6 = .ok (.iload_n 1, 1) := by decide +kernel
theorem dX12_weight_7 : decode cX12_weight 7 = .ok (.invokevirtual 305, 3) := by decide +kernel
theorem dX12_weight_10 : decode cX12_weight 10 = .ok (.istore_n 2, 1) := by decide +kernel
theorem dX12_weight_11 : decode cX12_weight 11 = .ok (.iload_n 2, 1) := by decide +kernel
theorem dX12_weight_12 : decode cX12_weight 12 = .ok (.ifCond .ge 5, 3) := by decide +kernel
theorem dX12_weight_15 : decode cX12_weight 15 = .ok (.iload_n 2, 1) := by decide +kernel
theorem dX12_weight_16 : decode cX12_weight 16 = .ok (.ireturn, 1) := by decide +kernel
theorem dX12_weight_17 : decode cX12_weight 17 = .ok (.iconst 5, 1) := by decide +kernel
theorem dX12_weight_18 : decode cX12_weight 18 = .ok (.aload_n 0, 1) := by decide +kernel
theorem dX12_weight_19 : decode cX12_weight 19 = .ok (.getfield 32, 3) := by decide +kernel
theorem dX12_weight_22 : decode cX12_weight 22 = .ok (.aload_n 0, 1) := by decide +kernel
theorem dX12_weight_23 : decode cX12_weight 23 = .ok (.getfield 104, 3) := by decide +kernel
theorem dX12_weight_26 : decode cX12_weight 26 = .ok (.iload_n 1, 1) := by decide +kernel
theorem dX12_weight_27 : decode cX12_weight 27 = .ok (.iaload, 1) := by decide +kernel
theorem dX12_weight_28 : decode cX12_weight 28 = .ok (.iaload, 1) := by decide +kernel
theorem dX12_weight_29 : decode cX12_weight 29 = .ok (.iadd, 1) := by decide +kernel
theorem dX12_weight_30 : decode cX12_weight 30 = .ok (.istore_n 3, 1) := by decide +kernel
theorem dX12_weight_31 : decode cX12_weight 31 = .ok (.aload_n 0, 1) := by decide +kernel
theorem dX12_weight_32 : decode cX12_weight 32 = .ok (.getfield 29, 3) := by decide +kernel
theorem dX12_weight_35 : decode cX12_weight 35 = .ok (.aload_n 0, 1) := by decide +kernel
theorem dX12_weight_36 : decode cX12_weight 36 = .ok (.getfield 104, 3) := by decide +kernel
theorem dX12_weight_39 : decode cX12_weight 39 = .ok (.iload_n 1, 1) := by decide +kernel
theorem dX12_weight_40 : decode cX12_weight 40 = .ok (.iaload, 1) := by decide +kernel
theorem dX12_weight_41 : decode cX12_weight 41 = .ok (.iaload, 1) := by decide +kernel
theorem dX12_weight_42 : decode cX12_weight 42 = .ok (.tableswitch 53 0 3 #[30, 32, 37, 44], 30) := by decide +kernel
theorem dX12_weight_72 : decode cX12_weight 72 = .ok (.iload_n 3, 1) := by decide +kernel
theorem dX12_weight_73 : decode cX12_weight 73 = .ok (.ireturn, 1) := by decide +kernel
theorem dX12_weight_74 : decode cX12_weight 74 = .ok (.iload_n 3, 1) := by decide +kernel
theorem dX12_weight_75 : decode cX12_weight 75 = .ok (.bipush 20, 2) := by decide +kernel
theorem dX12_weight_77 : decode cX12_weight 77 = .ok (.iadd, 1) := by decide +kernel
theorem dX12_weight_78 : decode cX12_weight 78 = .ok (.ireturn, 1) := by decide +kernel
theorem dX12_weight_79 : decode cX12_weight 79 = .ok (.iconst 2, 1) := by decide +kernel
theorem dX12_weight_80 : decode cX12_weight 80 = .ok (.iload_n 3, 1) := by decide +kernel
theorem dX12_weight_81 : decode cX12_weight 81 = .ok (.bipush 20, 2) := by decide +kernel
theorem dX12_weight_83 : decode cX12_weight 83 = .ok (.iadd, 1) := by decide +kernel
theorem dX12_weight_84 : decode cX12_weight 84 = .ok (.imul, 1) := by decide +kernel
theorem dX12_weight_85 : decode cX12_weight 85 = .ok (.ireturn, 1) := by decide +kernel
theorem dX12_weight_86 : decode cX12_weight 86 = .ok (.iconst 2, 1) := by decide +kernel
theorem dX12_weight_87 : decode cX12_weight 87 = .ok (.iload_n 3, 1) := by decide +kernel
theorem dX12_weight_88 : decode cX12_weight 88 = .ok (.bipush 20, 2) := by decide +kernel
theorem dX12_weight_90 : decode cX12_weight 90 = .ok (.iadd, 1) := by decide +kernel
theorem dX12_weight_91 : decode cX12_weight 91 = .ok (.imul, 1) := by decide +kernel
theorem dX12_weight_92 : decode cX12_weight 92 = .ok (.iconst 1, 1) := by decide +kernel
theorem dX12_weight_93 : decode cX12_weight 93 = .ok (.iadd, 1) := by decide +kernel
theorem dX12_weight_94 : decode cX12_weight 94 = .ok (.ireturn, 1) := by decide +kernel
theorem dX12_weight_95 : decode cX12_weight 95 = .ok (.iload_n 3, 1) := by decide +kernel
theorem dX12_weight_96 : decode cX12_weight 96 = .ok (.sipush 300, 3) := by decide +kernel
theorem dX12_weight_99 : decode cX12_weight 99 = .ok (.iadd, 1) := by decide +kernel
theorem dX12_weight_100 : decode cX12_weight 100 = .ok (.ireturn, 1) := by decide +kernel
theorem dX12_toss_0 : decode cX12_toss 0 = .ok (.aload_n 0, 1) := by decide +kernel
theorem dX12_toss_1 : decode cX12_toss 1 = .ok (.iconst 0, 1) := by decide +kernel
theorem dX12_toss_2 : decode cX12_toss 2 = .ok (.putfield 113, 3) := by decide +kernel
theorem dX12_toss_5 : decode cX12_toss 5 = .ok (.aload_n 0, 1) := by decide +kernel
theorem dX12_toss_6 : decode cX12_toss 6 = .ok (.iload_n 1, 1) := by decide +kernel
theorem dX12_toss_7 : decode cX12_toss 7 = .ok (.invokevirtual 305, 3) := by decide +kernel
theorem dX12_toss_10 : decode cX12_toss 10 = .ok (.istore_n 2, 1) := by decide +kernel
theorem dX12_toss_11 : decode cX12_toss 11 = .ok (.iload_n 2, 1) := by decide +kernel
theorem dX12_toss_12 : decode cX12_toss 12 = .ok (.ifCond .ge 7, 3) := by decide +kernel
theorem dX12_toss_15 : decode cX12_toss 15 = .ok (.iload_n 2, 1) := by decide +kernel
theorem dX12_toss_16 : decode cX12_toss 16 = .ok (.goto 28, 3) := by decide +kernel
theorem dX12_toss_19 : decode cX12_toss 19 = .ok (.aload_n 0, 1) := by decide +kernel
theorem dX12_toss_20 : decode cX12_toss 20 = .ok (.getfield 29, 3) := by decide +kernel
theorem dX12_toss_23 : decode cX12_toss 23 = .ok (.aload_n 0, 1) := by decide +kernel
theorem dX12_toss_24 : decode cX12_toss 24 = .ok (.getfield 104, 3) := by decide +kernel
theorem dX12_toss_27 : decode cX12_toss 27 = .ok (.iload_n 1, 1) := by decide +kernel
theorem dX12_toss_28 : decode cX12_toss 28 = .ok (.iaload, 1) := by decide +kernel
theorem dX12_toss_29 : decode cX12_toss 29 = .ok (.iaload, 1) := by decide +kernel
theorem dX12_toss_30 : decode cX12_toss 30 = .ok (.ifCond .ne 8, 3) := by decide +kernel
theorem dX12_toss_33 : decode cX12_toss 33 = .ok (.bipush (-15), 2) := by decide +kernel
theorem dX12_toss_35 : decode cX12_toss 35 = .ok (.goto 9, 3) := by decide +kernel
theorem dX12_toss_38 : decode cX12_toss 38 = .ok (.aload_n 0, 1) := by decide +kernel
theorem dX12_toss_39 : decode cX12_toss 39 = .ok (.getfield 104, 3) := by decide +kernel
theorem dX12_toss_42 : decode cX12_toss 42 = .ok (.iload_n 1, 1) := by decide +kernel
theorem dX12_toss_43 : decode cX12_toss 43 = .ok (.iaload, 1) := by decide +kernel
theorem dX12_toss_44 : decode cX12_toss 44 = .ok (.ireturn, 1) := by decide +kernel
