theorem dX11_init_0 : decode cX11_init 0 = .ok (.aload_n 0, 1) := by decide +kernel
theorem dX11_init_1 : decode cX11_init 1 = .ok (.invokespecial 1, 3) := by decide +kernel
theorem dX11_init_4 : decode cX11_init 4 = .ok (.aload_n 0, 1) := by decide +kernel
theorem dX11_init_5 : decode cX11_init 5 = .ok (.bipush 13, 2) := by decide +kernel
theorem dX11_init_7 : decode cX11_init 7 = .ok (.newarray .int, 2) := by decide +kernel
theorem dX11_init_9 : decode cX11_init 9 = .ok (.putfield 9, 3) := by decide +kernel
theorem dX11_init_12 : decode cX11_init 12 = .ok (.aload_n 0, 1) := by decide +kernel
theorem dX11_init_13 : decode cX11_init 13 = .ok (.new 13, 3) := by decide +kernel
theorem dX11_init_16 : decode cX11_init 16 = .ok (.dup, 1) := by decide +kernel
theorem dX11_init_17 : decode cX11_init 17 = .ok (.invokespecial 15, 3) := by decide +kernel
theorem dX11_init_20 : decode cX11_init 20 = .ok (.putfield 16, 3) := by decide +kernel
theorem dX11_init_23 : decode cX11_init 23 = .ok (.aload_n 0, 1) := by decide +kernel
theorem dX11_init_24 : decode cX11_init 24 = .ok (.new 20, 3) := by decide +kernel
theorem dX11_init_27 : decode cX11_init 27 = .ok (.dup, 1) := by decide +kernel
theorem dX11_init_28 : decode cX11_init 28 = .ok (.invokespecial 22, 3) := by decide +kernel
theorem dX11_init_31 : decode cX11_init 31 = .ok (.putfield 23, 3) := by decide +kernel
theorem dX11_init_34 : decode cX11_init 34 = .ok (.aload_n 0, 1) := by decide +kernel
theorem dX11_init_35 : decode cX11_init 35 = .ok (.new 27, 3) := by decide +kernel
theorem dX11_init_38 : decode cX11_init 38 = .ok (.dup, 1) := by decide +kernel
theorem dX11_init_39 : decode cX11_init 39 = .ok (.invokespecial 29, 3) := by decide +kernel
theorem dX11_init_42 : decode cX11_init 42 = .ok (.putfield 30, 3) := by decide +kernel
theorem dX11_init_45 : decode cX11_init 45 = .ok (.aload_n 0, 1) := by decide +kernel
theorem dX11_init_46 : decode cX11_init 46 = .ok (.new 34, 3) := by decide +kernel
theorem dX11_init_49 : decode cX11_init 49 = .ok (.dup, 1) := by decide +kernel
theorem dX11_init_50 : decode cX11_init 50 = .ok (.invokespecial 36, 3) := by decide +kernel
theorem dX11_init_53 : decode cX11_init 53 = .ok (.putfield 37, 3) := by decide +kernel
theorem dX11_init_56 : decode cX11_init 56 = .ok (.aload_n 0, 1) := by decide +kernel
theorem dX11_init_57 : decode cX11_init 57 = .ok (.bipush 8, 2) := by decide +kernel
theorem dX11_init_59 : decode cX11_init 59 = .ok (.anewarray 41, 3) := by decide +kernel
theorem dX11_init_62 : decode cX11_init 62 = .ok (.putfield 43, 3) := by decide +kernel
theorem dX11_init_65 : decode cX11_init 65 = .ok (.aload_n 0, 1) := by decide +kernel
theorem dX11_init_66 : decode cX11_init 66 = .ok (.iconst 1, 1) := by decide +kernel
theorem dX11_init_67 : decode cX11_init 67 = .ok (.putfield 47, 3) := by decide +kernel
theorem dX11_init_70 : decode cX11_init 70 = .ok (.aload_n 0, 1) := by decide +kernel
theorem dX11_init_71 : decode cX11_init 71 = .ok (.iconst 0, 1) := by decide +kernel
theorem dX11_init_72 : decode cX11_init 72 = .ok (.putfield 51, 3) := by decide +kernel
theorem dX11_init_75 : decode cX11_init 75 = .ok (.aload_n 0, 1) := by decide +kernel
theorem dX11_init_76 : decode cX11_init 76 = .ok (.iconst 4, 1) := by decide +kernel
theorem dX11_init_77 : decode cX11_init 77 = .ok (.putfield 54, 3) := by decide +kernel
theorem dX11_init_80 : decode cX11_init 80 = .ok (.aload_n 0, 1) := by decide +kernel
theorem dX11_init_81 : decode cX11_init 81 = .ok (.iconst 0, 1) := by decide +kernel
theorem dX11_init_82 : decode cX11_init 82 = .ok (.putfield 57, 3) := by decide +kernel
theorem dX11_init_85 : decode cX11_init 85 = .ok (.aload_n 0, 1) := by decide +kernel
theorem dX11_init_86 : decode cX11_init 86 = .ok (.iconst 0, 1) := by decide +kernel
theorem dX11_init_87 : decode cX11_init 87 = .ok (.putfield 60, 3) := by decide +kernel
theorem dX11_init_90 : decode cX11_init 90 = .ok (.aload_n 0, 1) := by decide +kernel
theorem dX11_init_91 : decode cX11_init 91 = .ok (.iconst 4, 1) := by decide +kernel
theorem dX11_init_92 : decode cX11_init 92 = .ok (.putfield 63, 3) := by decide +kernel
theorem dX11_init_95 : decode cX11_init 95 = .ok (.aload_n 0, 1) := by decide +kernel
theorem dX11_init_96 : decode cX11_init 96 = .ok (.iconst 0, 1) := by decide +kernel
theorem dX11_init_97 : decode cX11_init 97 = .ok (.putfield 66, 3) := by decide +kernel
theorem dX11_init_100 : decode cX11_init 100 = .ok (.aload_n 0, 1) := by decide +kernel
theorem dX11_init_101 : decode cX11_init 101 = .ok (.iconst 0, 1) := by decide +kernel
theorem dX11_init_102 : decode cX11_init 102 = .ok (.putfield 69, 3) := by decide +kernel
theorem dX11_init_105 : decode cX11_init 105 = .ok (.aload_n 0, 1) := by decide +kernel
theorem dX11_init_106 : decode cX11_init 106 = .ok (.bipush (-2), 2) := by decide +kernel
theorem dX11_init_108 : decode cX11_init 108 = .ok (.putfield 72, 3) := by decide +kernel
theorem dX11_init_111 : decode cX11_init 111 = .ok (.aload_n 0, 1) := by decide +kernel
theorem dX11_init_112 : decode cX11_init 112 = .ok (.aconst_null, 1) := by decide +kernel
theorem dX11_init_113 : decode cX11_init 113 = .ok (.putfield 75, 3) := by decide +kernel
theorem dX11_init_116 : decode cX11_init 116 = .ok (.getstatic 79, 3) := by decide +kernel
theorem dX11_init_119 : decode cX11_init 119 = .ok (.iconst 0, 1) := by decide +kernel
theorem dX11_init_120 : decode cX11_init 120 = .ok (.aload_n 0, 1) := by decide +kernel
theorem dX11_init_121 : decode cX11_init 121 = .ok (.getfield 9, 3) := by decide +kernel
theorem dX11_init_124 : decode cX11_init 124 = .ok (.iconst 0, 1) := by decide +kernel
theorem dX11_init_125 : decode cX11_init 125 = .ok (.bipush 13, 2) := by decide +kernel
theorem dX11_init_127 : decode cX11_init 127 = .ok (.invokestatic 82, 3) := by decide +kernel
theorem dX11_init_130 : decode cX11_init 130 = .ok (.iconst 0, 1) := by decide +kernel
theorem dX11_init_131 : decode cX11_init 131 = .ok (.istore_n 1, 1) := by decide +kernel
theorem dX11_init_132 : decode cX11_init 132 = .ok (.iload_n 1, 1) := by decide +kernel
theorem dX11_init_133 : decode cX11_init 133 = .ok (.bipush 8, 2) := by decide +kernel
theorem dX11_init_135 : decode cX11_init 135 = .ok (.if_icmp .ge 22, 3) := by decide +kernel
theorem dX11_init_138 : decode cX11_init 138 = .ok (.aload_n 0, 1) := by decide +kernel
theorem dX11_init_139 : decode cX11_init 139 = .ok (.getfield 43, 3) := by decide +kernel
theorem dX11_init_142 : decode cX11_init 142 = .ok (.iload_n 1, 1) := by decide +kernel
theorem dX11_init_143 : decode cX11_init 143 = .ok (.new 41, 3) := by decide +kernel
theorem dX11_init_146 : decode cX11_init 146 = .ok (.dup, 1) := by decide +kernel
theorem dX11_init_147 : decode cX11_init 147 = .ok (.invokespecial 88, 3) := by decide +kernel
theorem dX11_init_150 : decode cX11_init 150 = .ok (.aastore, 1) := by decide +kernel
theorem dX11_init_151 : decode cX11_init 151 = .ok (.iinc 1 1, 3) := by decide +kernel
theorem dX11_init_154 : decode cX11_init 154 = .ok (.goto (-22), 3) := by decide +kernel
theorem dX11_init_157 : decode cX11_init 157 = .ok (.return_, 1) := by decide +kernel
theorem dX11_time_0 : decode cX11_time 0 = .ok (.iload_n 1, 1) := by decide +kernel
theorem dX11_time_1 : decode cX11_time 1 = .ok (.iconst 0, 1) := by decide +kernel
theorem dX11_time_2 : decode cX11_time 2 = .ok (.bipush 12, 2) := by decide +kernel
theorem dX11_time_4 : decode cX11_time 4 = .ok (.invokestatic 89, 3) := by decide +kernel
theorem dX11_time_7 : decode cX11_time 7 = .ok (.ifCond .eq 13, 3) := by decide +kernel
theorem dX11_time_10 : decode cX11_time 10 = .ok (.iload_n 2, 1) := by decide +kernel
theorem dX11_time_11 : decode cX11_time 11 = .ok (.iconst 1, 1) := by decide +kernel
theorem dX11_time_12 : decode cX11_time 12 = .ok (.bipush 30, 2) := by decide +kernel
theorem dX11_time_14 : decode cX11_time 14 = .ok (.invokestatic 89, 3) := by decide +kernel
theorem dX11_time_17 : decode cX11_time 17 = .ok (.ifCond .ne 5, 3) := by decide +kernel
theorem dX11_time_20 : decode cX11_time 20 = .ok (.iconst (-1), 1) := by decide +kernel
theorem dX11_time_21 : decode cX11_time 21 = .ok (.ireturn, 1) := by decide +kernel
theorem dX11_time_22 : decode cX11_time 22 = .ok (.aload_n 0, 1) := by decide +kernel
theorem dX11_time_23 : decode cX11_time 23 = .ok (.getfield 9, 3) := by decide +kernel
theorem dX11_time_26 : decode cX11_time 26 = .ok (.iload_n 1, 1) := by decide +kernel
theorem dX11_time_27 : decode cX11_time 27 = .ok (.iaload, 1) := by decide +kernel
theorem dX11_time_28 : decode cX11_time 28 = .ok (.istore_n 3, 1) := by decide +kernel
theorem dX11_time_29 : decode cX11_time 29 = .ok (.aload_n 0, 1) := by decide +kernel
theorem dX11_time_30 : decode cX11_time 30 = .ok (.getfield 9, 3) := by decide +kernel
theorem dX11_time_33 : decode cX11_time 33 = .ok (.iload_n 1, 1) := by decide +kernel
theorem dX11_time_34 : decode cX11_time 34 = .ok (.iload_n 2, 1) := by decide +kernel
theorem dX11_time_35 : decode cX11_time 35 = .ok (.iastore, 1) := by decide +kernel
theorem dX11_time_36 : decode cX11_time 36 = .ok (.iload_n 3, 1) := by decide +kernel
theorem dX11_time_37 : decode cX11_time 37 = .ok (.ireturn, 1) := by decide +kernel
theorem dX11_refresh_0 : decode cX11_refresh 0 = .ok (.iload_n 1, 1) := by decide +kernel
theorem dX11_refresh_1 : decode cX11_refresh 1 = .ok (.ifCond .eq 15, 3) := by decide +kernel
theorem dX11_refresh_4 : decode cX11_refresh 4 = .ok (.iload_n 1, 1) := by decide +kernel
theorem dX11_refresh_5 : decode cX11_refresh 5 = .ok (.bipush 20, 2) := by decide +kernel
theorem dX11_refresh_7 : decode cX11_refresh 7 = .ok (.sipush 400, 3) := by decide +kernel
theorem dX11_refresh_10 : decode cX11_refresh 10 = .ok (.invokestatic 89, 3) := by decide +kernel
theorem dX11_refresh_13 : decode cX11_refresh 13 = .ok (.ifCond .eq 13, 3) := by decide +kernel
theorem dX11_refresh_16 : decode cX11_refresh 16 = .ok (.iload_n 2, 1) := by decide +kernel
theorem dX11_refresh_17 : decode cX11_refresh 17 = .ok (.iconst 1, 1) := by decide +kernel
theorem dX11_refresh_18 : decode cX11_refresh 18 = .ok (.bipush 8, 2) := by decide +kernel
theorem dX11_refresh_20 : decode cX11_refresh 20 = .ok (.invokestatic 89, 3) := by decide +kernel
theorem dX11_refresh_23 : decode cX11_refresh 23 = .ok (.ifCond .ne 5, 3) := by decide +kernel
theorem dX11_refresh_26 : decode cX11_refresh 26 = .ok (.iconst (-1), 1) := by decide +kernel
theorem dX11_refresh_27 : decode cX11_refresh 27 = .ok (.ireturn, 1) := by decide +kernel
theorem dX11_refresh_28 : decode cX11_refresh 28 = .ok (.aload_n 0, 1) := by decide +kernel
theorem dX11_refresh_29 : decode cX11_refresh 29 = .ok (.iload_n 1, 1) := by decide +kernel
theorem dX11_refresh_30 : decode cX11_refresh 30 = .ok (.putfield 51, 3) := by decide +kernel
theorem dX11_refresh_33 : decode cX11_refresh 33 = .ok (.aload_n 0, 1) := by decide +kernel
theorem dX11_refresh_34 : decode cX11_refresh 34 = .ok (.iload_n 2, 1) := by decide +kernel
theorem dX11_refresh_35 : decode cX11_refresh 35 = .ok (.putfield 54, 3) := by decide +kernel
theorem dX11_refresh_38 : decode cX11_refresh 38 = .ok (.iconst 0, 1) := by decide +kernel
theorem dX11_refresh_39 : decode cX11_refresh 39 = .ok (.ireturn, 1) := by decide +kernel
theorem dX11_order_0 : decode cX11_order 0 = .ok (.iload_n 1, 1) := by decide +kernel
theorem dX11_order_1 : decode cX11_order 1 = .ok (.iconst 0, 1) := by decide +kernel
theorem dX11_order_2 : decode cX11_order 2 = .ok (.iconst 2, 1) := by decide +kernel
theorem dX11_order_3 : decode cX11_order 3 = .ok (.invokestatic 89, 3) := by decide +kernel
theorem dX11_order_6 : decode cX11_order 6 = .ok (.ifCond .eq 13, 3) := by decide +kernel
theorem dX11_order_9 : decode cX11_order 9 = .ok (.iload_n 2, 1) := by decide +kernel
theorem dX11_order_10 : decode cX11_order 10 = .ok (.iconst 1, 1) := by decide +kernel
theorem dX11_order_11 : decode cX11_order 11 = .ok (.bipush 20, 2) := by decide +kernel
theorem dX11_order_13 : decode cX11_order 13 = .ok (.invokestatic 89, 3) := by decide +kernel
theorem dX11_order_16 : decode cX11_order 16 = .ok (.ifCond .ne 5, 3) := by decide +kernel
theorem dX11_order_19 : decode cX11_order 19 = .ok (.iconst (-1), 1) := by decide +kernel
theorem dX11_order_20 : decode cX11_order 20 = .ok (.ireturn, 1) := by decide +kernel
theorem dX11_order_21 : decode cX11_order 21 = .ok (.aload_n 0, 1) := by decide +kernel
theorem dX11_order_22 : decode cX11_order 22 = .ok (.iload_n 1, 1) := by decide +kernel
theorem dX11_order_23 : decode cX11_order 23 = .ok (.putfield 60, 3) := by decide +kernel
theorem dX11_order_26 : decode cX11_order 26 = .ok (.aload_n 0, 1) := by decide +kernel
theorem dX11_order_27 : decode cX11_order 27 = .ok (.iload_n 2, 1) := by decide +kernel
theorem dX11_order_28 : decode cX11_order 28 = .ok (.putfield 63, 3) := by decide +kernel
theorem dX11_order_31 : decode cX11_order 31 = .ok (.iconst 0, 1) := by decide +kernel
theorem dX11_order_32 : decode cX11_order 32 = .ok (.ireturn, 1) := by decide +kernel
theorem dX11_ask_0 : decode cX11_ask 0 = .ok (.iload_n 1, 1) := by decide +kernel
theorem dX11_ask_1 : decode cX11_ask 1 = .ok (.invokestatic 93, 3) := by decide +kernel
theorem dX11_ask_4 : decode cX11_ask 4 = .ok (.ifCond .eq 10, 3) := by decide +kernel
theorem dX11_ask_7 : decode cX11_ask 7 = .ok (.iload_n 2, 1) := by decide +kernel
theorem dX11_ask_8 : decode cX11_ask 8 = .ok (.invokestatic 97, 3) := by decide +kernel
theorem dX11_ask_11 : decode cX11_ask 11 = .ok (.ifCond .ne 5, 3) := by decide +kernel
theorem dX11_ask_14 : decode cX11_ask 14 = .ok (.iconst (-1), 1) := by decide +kernel
theorem dX11_ask_15 : decode cX11_ask 15 = .ok (.ireturn, 1) := by decide +kernel
theorem dX11_ask_16 : decode cX11_ask 16 = .ok (.aload_n 0, 1) := by decide +kernel
theorem dX11_ask_17 : decode cX11_ask 17 = .ok (.getfield 37, 3) := by decide +kernel
theorem dX11_ask_20 : decode cX11_ask 20 = .ok (.new 100, 3) := by decide +kernel
theorem dX11_ask_23 : decode cX11_ask 23 = .ok (.dup, 1) := by decide +kernel
theorem dX11_ask_24 : decode cX11_ask 24 = .ok (.aload_n 0, 1) := by decide +kernel
theorem dX11_ask_25 : decode cX11_ask 25 = .ok (.getfield 37, 3) := by decide +kernel
theorem dX11_ask_28 : decode cX11_ask 28 = .ok (.getfield 102, 3) := by decide +kernel
theorem dX11_ask_31 : decode cX11_ask 31 = .ok (.iload_n 1, 1) := by decide +kernel
theorem dX11_ask_32 : decode cX11_ask 32 = .ok (.iload_n 2, 1) := by decide +kernel
theorem dX11_ask_33 : decode cX11_ask 33 = .ok (.aload_n 0, 1) := by decide +kernel
theorem dX11_ask_34 : decode cX11_ask 34 = .ok (.getfield 47, 3) := by decide +kernel
theorem dX11_ask_37 : decode cX11_ask 37 = .ok (.invokespecial 105, 3) := by decide +kernel
theorem dX11_ask_40 : decode cX11_ask 40 = .ok (.invokevirtual 108, 3) := by decide +kernel
theorem dX11_ask_43 : decode cX11_ask 43 = .ok (.ireturn, 1) := by decide +kernel
theorem dX11_write_0 : decode cX11_write 0 = .ok (.iload_n 1, 1) := by decide +kernel
theorem dX11_write_1 : decode cX11_write 1 = .ok (.invokestatic 93, 3) := by decide +kernel
theorem dX11_write_4 : decode cX11_write 4 = .ok (.ifCond .eq 17, 3) := by decide +kernel
theorem dX11_write_7 : decode cX11_write 7 = .ok (.iload_n 2, 1) := by decide +kernel
theorem dX11_write_8 : decode cX11_write 8 = .ok (.invokestatic 97, 3) := by decide +kernel
theorem dX11_write_11 : decode cX11_write 11 = .ok (.ifCond .eq 10, 3) := by decide +kernel
theorem dX11_write_14 : decode cX11_write 14 = .ok (.iload_n 3, 1) := by decide +kernel
theorem dX11_write_15 : decode cX11_write 15 = .ok (.invokestatic 112, 3) := by decide +kernel
theorem dX11_write_18 : decode cX11_write 18 = .ok (.ifCond .ne 5, 3) := by decide +kernel
theorem dX11_write_21 : decode cX11_write 21 = .ok (.iconst (-1), 1) := by decide +kernel
theorem dX11_write_22 : decode cX11_write 22 = .ok (.ireturn, 1) := by decide +kernel
theorem dX11_write_23 : decode cX11_write 23 = .ok (.aload_n 0, 1) := by decide +kernel
theorem dX11_write_24 : decode cX11_write 24 = .ok (.getfield 37, 3) := by decide +kernel
theorem dX11_write_27 : decode cX11_write 27 = .ok (.new 115, 3) := by decide +kernel
theorem dX11_write_30 : decode cX11_write 30 = .ok (.dup, 1) := by decide +kernel
theorem dX11_write_31 : decode cX11_write 31 = .ok (.aload_n 0, 1) := by decide +kernel
theorem dX11_write_32 : decode cX11_write 32 = .ok (.getfield 37, 3) := by decide +kernel
theorem dX11_write_35 : decode cX11_write 35 = .ok (.getfield 102, 3) := by decide +kernel
theorem dX11_write_38 : decode cX11_write 38 = .ok (.iload_n 1, 1) := by decide +kernel
theorem dX11_write_39 : decode cX11_write 39 = .ok (.iload_n 2, 1) := by decide +kernel
theorem dX11_write_40 : decode cX11_write 40 = .ok (.aload_n 0, 1) := by decide +kernel
theorem dX11_write_41 : decode cX11_write 41 = .ok (.getfield 47, 3) := by decide +kernel
theorem dX11_write_44 : decode cX11_write 44 = .ok (.iload_n 3, 1) := by decide +kernel
theorem dX11_write_45 : decode cX11_write 45 = .ok (.invokespecial 117, 3) := by decide +kernel
theorem dX11_write_48 : decode cX11_write 48 = .ok (.invokevirtual 108, 3) := by decide +kernel
theorem dX11_write_51 : decode cX11_write 51 = .ok (.ireturn, 1) := by decide +kernel
theorem dX11_mask_0 : decode cX11_mask 0 = .ok (.iload_n 1, 1) := by decide +kernel
theorem dX11_mask_1 : decode cX11_mask 1 = .ok (.invokestatic 93, 3) := by decide +kernel
theorem dX11_mask_4 : decode cX11_mask 4 = .ok (.ifCond .eq 25, 3) := by decide +kernel
theorem dX11_mask_7 : decode cX11_mask 7 = .ok (.iload_n 2, 1) := by decide +kernel
theorem dX11_mask_8 : decode cX11_mask 8 = .ok (.invokestatic 97, 3) := by decide +kernel
theorem dX11_mask_11 : decode cX11_mask 11 = .ok (.ifCond .eq 18, 3) := by decide +kernel
theorem dX11_mask_14 : decode cX11_mask 14 = .ok (.iload_n 3, 1) := by decide +kernel
theorem dX11_mask_15 : decode cX11_mask 15 = .ok (.invokestatic 112, 3) := by decide +kernel
theorem dX11_mask_18 : decode cX11_mask 18 = .ok (.ifCond .eq 11, 3) := by decide +kernel
theorem dX11_mask_21 : decode cX11_mask 21 = .ok (.iload 4, 2) := by decide +kernel
theorem dX11_mask_23 : decode cX11_mask 23 = .ok (.invokestatic 112, 3) := by decide +kernel
theorem dX11_mask_26 : decode cX11_mask 26 = .ok (.ifCond .ne 5, 3) := by decide +kernel
theorem dX11_mask_29 : decode cX11_mask 29 = .ok (.iconst (-1), 1) := by decide +kernel
theorem dX11_mask_30 : decode cX11_mask 30 = .ok (.ireturn, 1) := by decide +kernel
theorem dX11_mask_31 : decode cX11_mask 31 = .ok (.aload_n 0, 1) := by decide +kernel
theorem dX11_mask_32 : decode cX11_mask 32 = .ok (.getfield 37, 3) := by decide +kernel
theorem dX11_mask_35 : decode cX11_mask 35 = .ok (.new 120, 3) := by decide +kernel
theorem dX11_mask_38 : decode cX11_mask 38 = .ok (.dup, 1) := by decide +kernel
theorem dX11_mask_39 : decode cX11_mask 39 = .ok (.aload_n 0, 1) := by decide +kernel
theorem dX11_mask_40 : decode cX11_mask 40 = .ok (.getfield 37, 3) := by decide +kernel
theorem dX11_mask_43 : decode cX11_mask 43 = .ok (.getfield 102, 3) := by decide +kernel
theorem dX11_mask_46 : decode cX11_mask 46 = .ok (.iload_n 1, 1) := by decide +kernel
theorem dX11_mask_47 : decode cX11_mask 47 = .ok (.iload_n 2, 1) := by decide +kernel
theorem dX11_mask_48 : decode cX11_mask 48 = .ok (.aload_n 0, 1) := by decide +kernel
theorem dX11_mask_49 : decode cX11_mask 49 = .ok (.getfield 47, 3) := by decide +kernel
theorem dX11_mask_52 : decode cX11_mask 52 = .ok (.iload_n 3, 1) := by decide +kernel
theorem dX11_mask_53 : decode cX11_mask 53 = .ok (.iload 4, 2) := by decide +kernel
theorem dX11_mask_55 : decode cX11_mask 55 = .ok (.invokespecial 122, 3) := by decide +kernel
theorem dX11_mask_58 : decode cX11_mask 58 = .ok (.invokevirtual 108, 3) := by decide +kernel
theorem dX11_mask_61 : decode cX11_mask 61 = .ok (.ireturn, 1) := by decide +kernel
theorem dX11_swap_0 : decode cX11_swap 0 = .ok (.iload_n 1, 1) := by decide +kernel
theorem dX11_swap_1 : decode cX11_swap 1 = .ok (.invokestatic 93, 3) := by decide +kernel
theorem dX11_swap_4 : decode cX11_swap 4 = .ok (.ifCond .eq 17, 3) := by decide +kernel
theorem dX11_swap_7 : decode cX11_swap 7 = .ok (.iload_n 2, 1) := by decide +kernel
theorem dX11_swap_8 : decode cX11_swap 8 = .ok (.invokestatic 97, 3) := by decide +kernel
theorem dX11_swap_11 : decode cX11_swap 11 = .ok (.ifCond .eq 10, 3) := by decide +kernel
theorem dX11_swap_14 : decode cX11_swap 14 = .ok (.iload_n 3, 1) := by decide +kernel
theorem dX11_swap_15 : decode cX11_swap 15 = .ok (.invokestatic 112, 3) := by decide +kernel
theorem dX11_swap_18 : decode cX11_swap 18 = .ok (.ifCond .ne 5, 3) := by decide +kernel
theorem dX11_swap_21 : decode cX11_swap 21 = .ok (.iconst (-1), 1) := by decide +kernel
theorem dX11_swap_22 : decode cX11_swap 22 = .ok (.ireturn, 1) := by decide +kernel
theorem dX11_swap_23 : decode cX11_swap 23 = .ok (.aload_n 0, 1) := by decide +kernel
theorem dX11_swap_24 : decode cX11_swap 24 = .ok (.getfield 37, 3) := by decide +kernel
theorem dX11_swap_27 : decode cX11_swap 27 = .ok (.new 125, 3) := by decide +kernel
theorem dX11_swap_30 : decode cX11_swap 30 = .ok (.dup, 1) := by decide +kernel
theorem dX11_swap_31 : decode cX11_swap 31 = .ok (.aload_n 0, 1) := by decide +kernel
theorem dX11_swap_32 : decode cX11_swap 32 = .ok (.getfield 37, 3) := by decide +kernel
theorem dX11_swap_35 : decode cX11_swap 35 = .ok (.getfield 102, 3) := by decide +kernel
theorem dX11_swap_38 : decode cX11_swap 38 = .ok (.iload_n 1, 1) := by decide +kernel
theorem dX11_swap_39 : decode cX11_swap 39 = .ok (.iload_n 2, 1) := by decide +kernel
theorem dX11_swap_40 : decode cX11_swap 40 = .ok (.aload_n 0, 1) := by decide +kernel
theorem dX11_swap_41 : decode cX11_swap 41 = .ok (.getfield 47, 3) := by decide +kernel
theorem dX11_swap_44 : decode cX11_swap 44 = .ok (.iload_n 3, 1) := by decide +kernel
theorem dX11_swap_45 : decode cX11_swap 45 = .ok (.invokespecial 127, 3) := by decide +kernel
theorem dX11_swap_48 : decode cX11_swap 48 = .ok (.invokevirtual 108, 3) := by decide +kernel
theorem dX11_swap_51 : decode cX11_swap 51 = .ok (.ireturn, 1) := by decide +kernel
theorem dX11_fence_0 : decode cX11_fence 0 = .ok (.iload_n 1, 1) := by decide +kernel
theorem dX11_fence_1 : decode cX11_fence 1 = .ok (.invokestatic 93, 3) := by decide +kernel
theorem dX11_fence_4 : decode cX11_fence 4 = .ok (.ifCond .ne 5, 3) := by decide +kernel
theorem dX11_fence_7 : decode cX11_fence 7 = .ok (.iconst (-1), 1) := by decide +kernel
theorem dX11_fence_8 : decode cX11_fence 8 = .ok (.ireturn, 1) := by decide +kernel
theorem dX11_fence_9 : decode cX11_fence 9 = .ok (.aload_n 0, 1) := by decide +kernel
theorem dX11_fence_10 : decode cX11_fence 10 = .ok (.getfield 37, 3) := by decide +kernel
theorem dX11_fence_13 : decode cX11_fence 13 = .ok (.new 128, 3) := by decide +kernel
theorem dX11_fence_16 : decode cX11_fence 16 = .ok (.dup, 1) := by decide +kernel
theorem dX11_fence_17 : decode cX11_fence 17 = .ok (.aload_n 0, 1) := by decide +kernel
theorem dX11_fence_18 : decode cX11_fence 18 = .ok (.getfield 37, 3) := by decide +kernel
theorem dX11_fence_21 : decode cX11_fence 21 = .ok (.getfield 102, 3) := by decide +kernel
theorem dX11_fence_24 : decode cX11_fence 24 = .ok (.iload_n 1, 1) := by decide +kernel
theorem dX11_fence_25 : decode cX11_fence 25 = .ok (.aload_n 0, 1) := by decide +kernel
theorem dX11_fence_26 : decode cX11_fence 26 = .ok (.getfield 47, 3) := by decide +kernel
theorem dX11_fence_29 : decode cX11_fence 29 = .ok (.invokespecial 130, 3) := by decide +kernel
theorem dX11_fence_32 : decode cX11_fence 32 = .ok (.invokevirtual 108, 3) := by decide +kernel
theorem dX11_fence_35 : decode cX11_fence 35 = .ok (.ireturn, 1) := by decide +kernel
theorem dX11_run_0 : decode cX11_run 0 = .ok (.iload_n 1, 1) := by decide +kernel
theorem dX11_run_1 : decode cX11_run 1 = .ok (.iconst 1, 1) := by decide +kernel
theorem dX11_run_2 : decode cX11_run 2 = .ok (.sipush 500, 3) := by decide +kernel
theorem dX11_run_5 : decode cX11_run 5 = .ok (.invokestatic 89, 3) := by decide +kernel
theorem dX11_run_8 : decode cX11_run 8 = .ok (.ifCond .ne 5, 3) := by decide +kernel
theorem dX11_run_11 : decode cX11_run 11 = .ok (.iconst (-1), 1) := by decide +kernel
theorem dX11_run_12 : decode cX11_run 12 = .ok (.ireturn, 1) := by decide +kernel
theorem dX11_run_13 : decode cX11_run 13 = .ok (.iconst 0, 1) := by decide +kernel
theorem dX11_run_14 : decode cX11_run 14 = .ok (.istore_n 2, 1) := by decide +kernel
theorem dX11_run_15 : decode cX11_run 15 = .ok (.iconst 0, 1) := by decide +kernel
theorem dX11_run_16 : decode cX11_run 16 = .ok (.istore_n 3, 1) := by decide +kernel
theorem dX11_run_17 : decode cX11_run 17 = .ok (.iload_n 3, 1) := by decide +kernel
theorem dX11_run_18 : decode cX11_run 18 = .ok (.iload_n 1, 1) := by decide +kernel
theorem dX11_run_19 : decode cX11_run 19 = .ok (.if_icmp .ge 16, 3) := by decide +kernel
theorem dX11_run_22 : decode cX11_run 22 = .ok (.iload_n 2, 1) := by decide +kernel
theorem dX11_run_23 : decode cX11_run 23 = .ok (.aload_n 0, 1) := by decide +kernel
theorem dX11_run_24 : decode cX11_run 24 = .ok (.invokevirtual 133, 3) := by decide +kernel
theorem dX11_run_27 : decode cX11_run 27 = .ok (.iadd, 1) := by decide +kernel
theorem dX11_run_28 : decode cX11_run 28 = .ok (.istore_n 2, 1) := by decide +kernel
theorem dX11_run_29 : decode cX11_run 29 = .ok (.iinc 3 1, 3) := by decide +kernel
theorem dX11_run_32 : decode cX11_run 32 = .ok (.goto (-15), 3) := by decide +kernel
theorem dX11_run_35 : decode cX11_run 35 = .ok (.iload_n 2, 1) := by decide +kernel
theorem dX11_run_36 : decode cX11_run 36 = .ok (.ireturn, 1) := by decide +kernel
theorem dX11_drain_0 : decode cX11_drain 0 = .ok (.iload_n 1, 1) := by decide +kernel
theorem dX11_drain_1 : decode cX11_drain 1 = .ok (.iconst 1, 1) := by decide +kernel
theorem dX11_drain_2 : decode cX11_drain 2 = .ok (.sipush 500, 3) := by decide +kernel
theorem dX11_drain_5 : decode cX11_drain 5 = .ok (.invokestatic 89, 3) := by decide +kernel
theorem dX11_drain_8 : decode cX11_drain 8 = .ok (.ifCond .ne 5, 3) := by decide +kernel
theorem dX11_drain_11 : decode cX11_drain 11 = .ok (.iconst (-1), 1) := by decide +kernel
theorem dX11_drain_12 : decode cX11_drain 12 = .ok (.ireturn, 1) := by decide +kernel
theorem dX11_drain_13 : decode cX11_drain 13 = .ok (.iconst 0, 1) := by decide +kernel
theorem dX11_drain_14 : decode cX11_drain 14 = .ok (.istore_n 2, 1) := by decide +kernel
theorem dX11_drain_15 : decode cX11_drain 15 = .ok (.iload_n 2, 1) := by decide +kernel
theorem dX11_drain_16 : decode cX11_drain 16 = .ok (.iload_n 1, 1) := by decide +kernel
theorem dX11_drain_17 : decode cX11_drain 17 = .ok (.if_icmp .ge 24, 3) := by decide +kernel
theorem dX11_drain_20 : decode cX11_drain 20 = .ok (.aload_n 0, 1) := by decide +kernel
theorem dX11_drain_21 : decode cX11_drain 21 = .ok (.getfield 37, 3) := by decide +kernel
theorem dX11_drain_24 : decode cX11_drain 24 = .ok (.getfield 137, 3) := by decide +kernel
theorem dX11_drain_27 : decode cX11_drain 27 = .ok (.ifCond .le 14, 3) := by decide +kernel
theorem dX11_drain_30 : decode cX11_drain 30 = .ok (.aload_n 0, 1) := by decide +kernel
theorem dX11_drain_31 : decode cX11_drain 31 = .ok (.invokevirtual 133, 3) := by decide +kernel
theorem dX11_drain_34 : decode cX11_drain 34 = .ok (.pop, 1) := by decide +kernel
theorem dX11_drain_35 : decode cX11_drain 35 = .ok (.iinc 2 1, 3) := by decide +kernel
theorem dX11_drain_38 : decode cX11_drain 38 = .ok (.goto (-23), 3) := by decide +kernel
theorem dX11_drain_41 : decode cX11_drain 41 = .ok (.iload_n 2, 1) := by decide +kernel
theorem dX11_drain_42 : decode cX11_drain 42 = .ok (.ireturn, 1) := by decide +kernel
theorem dX11_next_0 : decode cX11_next 0 = .ok (.aload_n 0, 1) := by decide +kernel
theorem dX11_next_1 : decode cX11_next 1 = .ok (.aload_n 0, 1) := by decide +kernel
theorem dX11_next_2 : decode cX11_next 2 = .ok (.invokevirtual 140, 3) := by decide +kernel
theorem dX11_next_5 : decode cX11_next 5 = .ok (.invokevirtual 143, 3) := by decide +kernel
theorem dX11_next_8 : decode cX11_next 8 = .ok (.ireturn, 1) := by decide +kernel
theorem dX11_passTick_0 : decode cX11_passTick 0 = .ok (.aload_n 0, 1) := by decide +kernel
theorem dX11_passTick_1 : decode cX11_passTick 1 = .ok (.aload_n 0, 1) := by decide +kernel
theorem dX11_passTick_2 : decode cX11_passTick 2 = .ok (.invokevirtual 140, 3) := by decide +kernel
theorem dX11_passTick_5 : decode cX11_passTick 5 = .ok (.putfield 57, 3) := by decide +kernel
theorem dX11_passTick_8 : decode cX11_passTick 8 = .ok (.aload_n 0, 1) := by decide +kernel
theorem dX11_passTick_9 : decode cX11_passTick 9 = .ok (.getfield 37, 3) := by decide +kernel
theorem dX11_passTick_12 : decode cX11_passTick 12 = .ok (.getfield 137, 3) := by decide +kernel
theorem dX11_passTick_15 : decode cX11_passTick 15 = .ok (.istore_n 1, 1) := by decide +kernel
theorem dX11_passTick_16 : decode cX11_passTick 16 = .ok (.aload_n 0, 1) := by decide +kernel
theorem dX11_passTick_17 : decode cX11_passTick 17 = .ok (.getfield 37, 3) := by decide +kernel
theorem dX11_passTick_20 : decode cX11_passTick 20 = .ok (.aload_n 0, 1) := by decide +kernel
theorem dX11_passTick_21 : decode cX11_passTick 21 = .ok (.getfield 47, 3) := by decide +kernel
theorem dX11_passTick_24 : decode cX11_passTick 24 = .ok (.invokevirtual 147, 3) := by decide +kernel
theorem dX11_passTick_27 : decode cX11_passTick 27 = .ok (.aload_n 0, 1) := by decide +kernel
theorem dX11_passTick_28 : decode cX11_passTick 28 = .ok (.aload_n 0, 1) := by decide +kernel
theorem dX11_passTick_29 : decode cX11_passTick 29 = .ok (.getfield 57, 3) := by decide +kernel
theorem dX11_passTick_32 : decode cX11_passTick 32 = .ok (.invokevirtual 143, 3) := by decide +kernel
theorem dX11_passTick_35 : decode cX11_passTick 35 = .ok (.istore_n 2, 1) := by decide +kernel
theorem dX11_passTick_36 : decode cX11_passTick 36 = .ok (.iload_n 2, 1) := by decide +kernel
theorem dX11_passTick_37 : decode cX11_passTick 37 = .ok (.bipush (-2), 2) := by decide +kernel
theorem dX11_passTick_39 : decode cX11_passTick 39 = .ok (.if_icmp .eq 16, 3) := by decide +kernel
theorem dX11_passTick_42 : decode cX11_passTick 42 = .ok (.aload_n 0, 1) := by decide +kernel
theorem dX11_passTick_43 : decode cX11_passTick 43 = .ok (.iload_n 2, 1) := by decide +kernel
theorem dX11_passTick_44 : decode cX11_passTick 44 = .ok (.aload_n 0, 1) := by decide +kernel
theorem dX11_passTick_45 : decode cX11_passTick 45 = .ok (.getfield 72, 3) := by decide +kernel
theorem dX11_passTick_48 : decode cX11_passTick 48 = .ok (.aload_n 0, 1) := by decide +kernel
theorem dX11_passTick_49 : decode cX11_passTick 49 = .ok (.getfield 75, 3) := by decide +kernel
theorem dX11_passTick_52 : decode cX11_passTick 52 = .ok (.invokevirtual 151, 3) := by decide +kernel
theorem dX11_passTick_55 : decode cX11_passTick 55 = .ok (.aload_n 0, 1) := by decide +kernel
theorem dX11_passTick_56 : decode cX11_passTick 56 = .ok (.dup, 1) := by decide +kernel
theorem dX11_passTick_57 : decode cX11_passTick 57 = .ok (.getfield 47, 3) := by decide +kernel
theorem dX11_passTick_60 : decode cX11_passTick 60 = .ok (.iconst 1, 1) := by decide +kernel
theorem dX11_passTick_61 : decode cX11_passTick 61 = .ok (.iadd, 1) := by decide +kernel
theorem dX11_passTick_62 : decode cX11_passTick 62 = .ok (.putfield 47, 3) := by decide +kernel
theorem dX11_passTick_65 : decode cX11_passTick 65 = .ok (.iload_n 1, 1) := by decide +kernel
theorem dX11_passTick_66 : decode cX11_passTick 66 = .ok (.aload_n 0, 1) := by decide +kernel
theorem dX11_passTick_67 : decode cX11_passTick 67 = .ok (.getfield 37, 3) := by decide +kernel
theorem dX11_passTick_70 : decode cX11_passTick 70 = .ok (.getfield 137, 3) := by decide +kernel
theorem dX11_passTick_73 : decode cX11_passTick 73 = .ok (.isub, 1) := by decide +kernel
theorem dX11_passTick_74 : decode cX11_passTick 74 = .ok (.ireturn, 1) := by decide +kernel
theorem dX11_owedThisTick_0 : decode cX11_owedThisTick 0 = .ok (.aload_n 0, 1) := by decide +kernel
theorem dX11_owedThisTick_1 : decode cX11_owedThisTick 1 = .ok (.getfield 51, 3) := by decide +kernel
theorem dX11_owedThisTick_4 : decode cX11_owedThisTick 4 = .ok (.ifCond .eq 24, 3) := by decide +kernel
theorem dX11_owedThisTick_7 : decode cX11_owedThisTick 7 = .ok (.aload_n 0, 1) := by decide +kernel
theorem dX11_owedThisTick_8 : decode cX11_owedThisTick 8 = .ok (.getfield 47, 3) := by decide +kernel
theorem dX11_owedThisTick_11 : decode cX11_owedThisTick 11 = .ok (.aload_n 0, 1) := by decide +kernel
theorem dX11_owedThisTick_12 : decode cX11_owedThisTick 12 = .ok (.getfield 51, 3) := by decide +kernel
theorem dX11_owedThisTick_15 : decode cX11_owedThisTick 15 = .ok (.irem, 1) := by decide +kernel
theorem dX11_owedThisTick_16 : decode cX11_owedThisTick 16 = .ok (.ifCond .ne 12, 3) := by decide +kernel
theorem dX11_owedThisTick_19 : decode cX11_owedThisTick 19 = .ok (.aload_n 0, 1) := by decide +kernel
theorem dX11_owedThisTick_20 : decode cX11_owedThisTick 20 = .ok (.getfield 57, 3) := by decide +kernel
theorem dX11_owedThisTick_23 : decode cX11_owedThisTick 23 = .ok (.iconst 1, 1) := by decide +kernel
theorem dX11_owedThisTick_24 : decode cX11_owedThisTick 24 = .ok (.iadd, 1) := by decide +kernel
theorem dX11_owedThisTick_25 : decode cX11_owedThisTick 25 = .ok (.goto 7, 3) := by decide +kernel
theorem dX11_owedThisTick_28 : decode cX11_owedThisTick 28 = .ok (.aload_n 0, 1) := by decide +kernel
theorem dX11_owedThisTick_29 : decode cX11_owedThisTick 29 = .ok (.getfield 57, 3) := by decide +kernel
theorem dX11_owedThisTick_32 : decode cX11_owedThisTick 32 = .ok (.ireturn, 1) := by decide +kernel
theorem dX11_choose_0 : decode cX11_choose 0 = .ok (.aload_n 0, 1) := by decide +kernel
theorem dX11_choose_1 : decode cX11_choose 1 = .ok (.bipush (-2), 2) := by decide +kernel
theorem dX11_choose_3 : decode cX11_choose 3 = .ok (.putfield 72, 3) := by decide +kernel
theorem dX11_choose_6 : decode cX11_choose 6 = .ok (.aload_n 0, 1) := by decide +kernel
theorem dX11_choose_7 : decode cX11_choose 7 = .ok (.aconst_null, 1) := by decide +kernel
theorem dX11_choose_8 : decode cX11_choose 8 = .ok (.putfield 75, 3) := by decide +kernel
theorem dX11_choose_11 : decode cX11_choose 11 = .ok (.iload_n 1, 1) := by decide +kernel
theorem dX11_choose_12 : decode cX11_choose 12 = .ok (.aload_n 0, 1) := by decide +kernel
theorem dX11_choose_13 : decode cX11_choose 13 = .ok (.getfield 54, 3) := by decide +kernel
theorem dX11_choose_16 : decode cX11_choose 16 = .ok (.if_icmp .ge 24, 3) := by decide +kernel
theorem dX11_choose_19 : decode cX11_choose 19 = .ok (.iload_n 1, 1) := by decide +kernel
theorem dX11_choose_20 : decode cX11_choose 20 = .ok (.ifCond .le 24, 3) := by decide +kernel
theorem dX11_choose_23 : decode cX11_choose 23 = .ok (.aload_n 0, 1) := by decide +kernel
theorem dX11_choose_24 : decode cX11_choose 24 = .ok (.getfield 37, 3) := by decide +kernel
theorem dX11_choose_27 : decode cX11_choose 27 = .ok (.getfield 137, 3) := by decide +kernel
theorem dX11_choose_30 : decode cX11_choose 30 = .ok (.aload_n 0, 1) := by decide +kernel
theorem dX11_choose_31 : decode cX11_choose 31 = .ok (.getfield 37, 3) := by decide +kernel
theorem dX11_choose_34 : decode cX11_choose 34 = .ok (.getfield 155, 3) := by decide +kernel
theorem dX11_choose_37 : decode cX11_choose 37 = .ok (.if_icmp .ne 7, 3) := by decide +kernel
theorem dX11_choose_40 : decode cX11_choose 40 = .ok (.iconst 1, 1) := by decide +kernel
theorem dX11_choose_41 : decode cX11_choose 41 = .ok (.goto 4, 3) := by decide +kernel
theorem dX11_choose_44 : decode cX11_choose 44 = .ok (.iconst 0, 1) := by decide +kernel
theorem dX11_choose_45 : decode cX11_choose 45 = .ok (.istore_n 2, 1) := by decide +kernel
theorem dX11_choose_46 : decode cX11_choose 46 = .ok (.iload_n 2, 1) := by decide +kernel
theorem dX11_choose_47 : decode cX11_choose 47 = .ok (.ifCond .eq 10, 3) := by decide +kernel
theorem dX11_choose_50 : decode cX11_choose 50 = .ok (.aload_n 0, 1) := by decide +kernel
theorem dX11_choose_51 : decode cX11_choose 51 = .ok (.invokevirtual 158, 3) := by decide +kernel
theorem dX11_choose_54 : decode cX11_choose 54 = .ok (.goto 7, 3) := by decide +kernel
theorem dX11_choose_57 : decode cX11_choose 57 = .ok (.aload_n 0, 1) := by decide +kernel
theorem dX11_choose_58 : decode cX11_choose 58 = .ok (.invokevirtual 161, 3) := by decide +kernel
theorem dX11_choose_61 : decode cX11_choose 61 = .ok (.ireturn, 1) := by decide +kernel
theorem dX11_chooseForRefresh_0 : decode cX11_chooseForRefresh 0 = .ok (.aload_n 0, 1) := by decide +kernel
theorem dX11_chooseForRefresh_1 : decode cX11_chooseForRefresh 1 = .ok (.iconst 4, 1) := by decide +kernel
theorem dX11_chooseForRefresh_2 : decode cX11_chooseForRefresh 2 = .ok (.iconst 0, 1) := by decide +kernel
theorem dX11_chooseForRefresh_3 : decode cX11_chooseForRefresh 3 = .ok (.invokevirtual 164, 3) := by decide +kernel
theorem dX11_chooseForRefresh_6 : decode cX11_chooseForRefresh 6 = .ok (.ifCond .eq 5, 3) := by decide +kernel
theorem dX11_chooseForRefresh_9 : decode cX11_chooseForRefresh 9 = .ok (.iconst 4, 1) := by decide +kernel
theorem dX11_chooseForRefresh_10 : decode cX11_chooseForRefresh 10 = .ok (.ireturn, 1) := by decide +kernel
theorem dX11_chooseForRefresh_11 : decode cX11_chooseForRefresh 11 = .ok (.iconst 0, 1) := by decide +kernel
theorem dX11_chooseForRefresh_12 : decode cX11_chooseForRefresh 12 = .ok (.istore_n 1, 1) := by decide +kernel
theorem dX11_chooseForRefresh_13 : decode cX11_chooseForRefresh 13 = .ok (.iload_n 1, 1) := by decide +kernel
theorem dX11_chooseForRefresh_14 : decode cX11_chooseForRefresh 14 = .ok (.iconst 4, 1) := by decide +kernel
theorem dX11_chooseForRefresh_15 : decode cX11_chooseForRefresh 15 = .ok (.if_icmp .ge 25, 3) := by decide +kernel
theorem dX11_chooseForRefresh_18 : decode cX11_chooseForRefresh 18 = .ok (.aload_n 0, 1) := by decide +kernel
theorem dX11_chooseForRefresh_19 : decode cX11_chooseForRefresh 19 = .ok (.iconst 1, 1) := by decide +kernel
theorem dX11_chooseForRefresh_20 : decode cX11_chooseForRefresh 20 = .ok (.iload_n 1, 1) := by decide +kernel
theorem dX11_chooseForRefresh_21 : decode cX11_chooseForRefresh 21 = .ok (.invokevirtual 164, 3) := by decide +kernel
theorem dX11_chooseForRefresh_24 : decode cX11_chooseForRefresh 24 = .ok (.ifCond .eq 10, 3) := by decide +kernel
theorem dX11_chooseForRefresh_27 : decode cX11_chooseForRefresh 27 = .ok (.aload_n 0, 1) := by decide +kernel
theorem dX11_chooseForRefresh_28 : decode cX11_chooseForRefresh 28 = .ok (.iload_n 1, 1) := by decide +kernel
theorem dX11_chooseForRefresh_29 : decode cX11_chooseForRefresh 29 = .ok (.putfield 72, 3) := by decide +kernel
theorem dX11_chooseForRefresh_32 : decode cX11_chooseForRefresh 32 = .ok (.iconst 1, 1) := by decide +kernel
theorem dX11_chooseForRefresh_33 : decode cX11_chooseForRefresh 33 = .ok (.ireturn, 1) := by decide +kernel
theorem dX11_chooseForRefresh_34 : decode cX11_chooseForRefresh 34 = .ok (.iinc 1 1, 3) := by decide +kernel
theorem dX11_chooseForRefresh_37 : decode cX11_chooseForRefresh 37 = .ok (.goto (-24), 3) := by decide +kernel
theorem dX11_chooseForRefresh_40 : decode cX11_chooseForRefresh 40 = .ok (.bipush (-2), 2) := by decide +kernel
theorem dX11_chooseForRefresh_42 : decode cX11_chooseForRefresh 42 = .ok (.ireturn, 1) := by decide +kernel
theorem dX11_chooseForAsks_0 : decode cX11_chooseForAsks 0 = .ok (.iconst 0, 1) := by decide +kernel
theorem dX11_chooseForAsks_1 : decode cX11_chooseForAsks 1 = .ok (.istore_n 1, 1) := by decide +kernel
theorem dX11_chooseForAsks_2 : decode cX11_chooseForAsks 2 = .ok (.aload_n 0, 1) := by decide +kernel
theorem dX11_chooseForAsks_3 : decode cX11_chooseForAsks 3 = .ok (.getfield 37, 3) := by decide +kernel
theorem dX11_chooseForAsks_6 : decode cX11_chooseForAsks 6 = .ok (.aload_n 0, 1) := by decide +kernel
theorem dX11_chooseForAsks_7 : decode cX11_chooseForAsks 7 = .ok (.getfield 60, 3) := by decide +kernel
theorem dX11_chooseForAsks_10 : decode cX11_chooseForAsks 10 = .ok (.aload_n 0, 1) := by decide +kernel
theorem dX11_chooseForAsks_11 : decode cX11_chooseForAsks 11 = .ok (.getfield 63, 3) := by decide +kernel
theorem dX11_chooseForAsks_14 : decode cX11_chooseForAsks 14 = .ok (.aload_n 0, 1) := by decide +kernel
theorem dX11_chooseForAsks_15 : decode cX11_chooseForAsks 15 = .ok (.getfield 30, 3) := by decide +kernel
theorem dX11_chooseForAsks_18 : decode cX11_chooseForAsks 18 = .ok (.invokevirtual 168, 3) := by decide +kernel
theorem dX11_chooseForAsks_21 : decode cX11_chooseForAsks 21 = .ok (.astore_n 2, 1) := by decide +kernel
theorem dX11_chooseForAsks_22 : decode cX11_chooseForAsks 22 = .ok (.aload_n 2, 1) := by decide +kernel
theorem dX11_chooseForAsks_23 : decode cX11_chooseForAsks 23 = .ok (.astore_n 3, 1) := by decide +kernel
theorem dX11_chooseForAsks_24 : decode cX11_chooseForAsks 24 = .ok (.aload_n 3, 1) := by decide +kernel
theorem dX11_chooseForAsks_25 : decode cX11_chooseForAsks 25 = .ok (.ifnull 121, 3) := by decide +kernel
theorem dX11_chooseForAsks_28 : decode cX11_chooseForAsks 28 = .ok (.aload_n 0, 1) := by decide +kernel
theorem dX11_chooseForAsks_29 : decode cX11_chooseForAsks 29 = .ok (.getfield 37, 3) := by decide +kernel
theorem dX11_chooseForAsks_32 : decode cX11_chooseForAsks 32 = .ok (.aload_n 3, 1) := by decide +kernel
theorem dX11_chooseForAsks_33 : decode cX11_chooseForAsks 33 = .ok (.iconst 0, 1) := by decide +kernel
theorem dX11_chooseForAsks_34 : decode cX11_chooseForAsks 34 = .ok (.invokevirtual 172, 3) := by decide +kernel
theorem dX11_chooseForAsks_37 : decode cX11_chooseForAsks 37 = .ok (.ifCond .eq 6, 3) := by decide +kernel
theorem dX11_chooseForAsks_40 : decode cX11_chooseForAsks 40 = .ok (.goto 98, 3) := by decide +kernel
theorem dX11_chooseForAsks_43 : decode cX11_chooseForAsks 43 = .ok (.iload_n 1, 1) := by decide +kernel
theorem dX11_chooseForAsks_44 : decode cX11_chooseForAsks 44 = .ok (.aload_n 3, 1) := by decide +kernel
theorem dX11_chooseForAsks_45 : decode cX11_chooseForAsks 45 = .ok (.getfield 176, 3) := by decide +kernel
theorem dX11_chooseForAsks_48 : decode cX11_chooseForAsks 48 = .ok (.ishr, 1) := by decide +kernel
theorem dX11_chooseForAsks_49 : decode cX11_chooseForAsks 49 = .ok (.iconst 1, 1) := by decide +kernel
theorem dX11_chooseForAsks_50 : decode cX11_chooseForAsks 50 = .ok (.iand, 1) := by decide +kernel
theorem dX11_chooseForAsks_51 : decode cX11_chooseForAsks 51 = .ok (.ifCond .ne 7, 3) := by decide +kernel
theorem dX11_chooseForAsks_54 : decode cX11_chooseForAsks 54 = .ok (.iconst 1, 1) := by decide +kernel
theorem dX11_chooseForAsks_55 : decode cX11_chooseForAsks 55 = .ok (.goto 4, 3) := by decide +kernel
theorem dX11_chooseForAsks_58 : decode cX11_chooseForAsks 58 = .ok (.iconst 0, 1) := by decide +kernel
theorem dX11_chooseForAsks_59 : decode cX11_chooseForAsks 59 = .ok (.istore 4, 2) := by decide +kernel
theorem dX11_chooseForAsks_61 : decode cX11_chooseForAsks 61 = .ok (.iload_n 1, 1) := by decide +kernel
theorem dX11_chooseForAsks_62 : decode cX11_chooseForAsks 62 = .ok (.iconst 1, 1) := by decide +kernel
theorem dX11_chooseForAsks_63 : decode cX11_chooseForAsks 63 = .ok (.aload_n 3, 1) := by decide +kernel
theorem dX11_chooseForAsks_64 : decode cX11_chooseForAsks 64 = .ok (.getfield 176, 3) := by decide +kernel
theorem dX11_chooseForAsks_67 : decode cX11_chooseForAsks 67 = .ok (.ishl, 1) := by decide +kernel
theorem dX11_chooseForAsks_68 : decode cX11_chooseForAsks 68 = .ok (.ior, 1) := by decide +kernel
theorem dX11_chooseForAsks_69 : decode cX11_chooseForAsks 69 = .ok (.istore_n 1, 1) := by decide +kernel
theorem dX11_chooseForAsks_70 : decode cX11_chooseForAsks 70 = .ok (.aload_n 0, 1) := by decide +kernel
theorem dX11_chooseForAsks_71 : decode cX11_chooseForAsks 71 = .ok (.getfield 30, 3) := by decide +kernel
theorem dX11_chooseForAsks_74 : decode cX11_chooseForAsks 74 = .ok (.aload_n 3, 1) := by decide +kernel
theorem dX11_chooseForAsks_75 : decode cX11_chooseForAsks 75 = .ok (.invokevirtual 181, 3) := by decide +kernel
theorem dX11_chooseForAsks_78 : decode cX11_chooseForAsks 78 = .ok (.istore 5, 2) := by decide +kernel
theorem dX11_chooseForAsks_80 : decode cX11_chooseForAsks 80 = .ok (.iload 4, 2) := by decide +kernel
theorem dX11_chooseForAsks_82 : decode cX11_chooseForAsks 82 = .ok (.ifCond .ne 15, 3) := by decide +kernel
theorem dX11_chooseForAsks_85 : decode cX11_chooseForAsks 85 = .ok (.iload 5, 2) := by decide +kernel
theorem dX11_chooseForAsks_87 : decode cX11_chooseForAsks 87 = .ok (.iconst 2, 1) := by decide +kernel
theorem dX11_chooseForAsks_88 : decode cX11_chooseForAsks 88 = .ok (.if_icmp .eq 9, 3) := by decide +kernel
theorem dX11_chooseForAsks_91 : decode cX11_chooseForAsks 91 = .ok (.iload 5, 2) := by decide +kernel
theorem dX11_chooseForAsks_93 : decode cX11_chooseForAsks 93 = .ok (.iconst 3, 1) := by decide +kernel
theorem dX11_chooseForAsks_94 : decode cX11_chooseForAsks 94 = .ok (.if_icmp .ne 7, 3) := by decide +kernel
theorem dX11_chooseForAsks_97 : decode cX11_chooseForAsks 97 = .ok (.iconst 1, 1) := by decide +kernel
theorem dX11_chooseForAsks_98 : decode cX11_chooseForAsks 98 = .ok (.goto 4, 3) := by decide +kernel
theorem dX11_chooseForAsks_101 : decode cX11_chooseForAsks 101 = .ok (.iconst 0, 1) := by decide +kernel
theorem dX11_chooseForAsks_102 : decode cX11_chooseForAsks 102 = .ok (.istore 6, 2) := by decide +kernel
theorem dX11_chooseForAsks_104 : decode cX11_chooseForAsks 104 = .ok (.iload 6, 2) := by decide +kernel
theorem dX11_chooseForAsks_106 : decode cX11_chooseForAsks 106 = .ok (.ifCond .eq 32, 3) := by decide +kernel
theorem dX11_chooseForAsks_109 : decode cX11_chooseForAsks 109 = .ok (.aload_n 0, 1) := by decide +kernel
theorem dX11_chooseForAsks_110 : decode cX11_chooseForAsks 110 = .ok (.iload 5, 2) := by decide +kernel
theorem dX11_chooseForAsks_112 : decode cX11_chooseForAsks 112 = .ok (.aload_n 3, 1) := by decide +kernel
theorem dX11_chooseForAsks_113 : decode cX11_chooseForAsks 113 = .ok (.getfield 176, 3) := by decide +kernel
theorem dX11_chooseForAsks_116 : decode cX11_chooseForAsks 116 = .ok (.invokevirtual 164, 3) := by decide +kernel
theorem dX11_chooseForAsks_119 : decode cX11_chooseForAsks 119 = .ok (.ifCond .eq 19, 3) := by decide +kernel
theorem dX11_chooseForAsks_122 : decode cX11_chooseForAsks 122 = .ok (.aload_n 0, 1) := by decide +kernel
theorem dX11_chooseForAsks_123 : decode cX11_chooseForAsks 123 = .ok (.aload_n 3, 1) := by decide +kernel
theorem dX11_chooseForAsks_124 : decode cX11_chooseForAsks 124 = .ok (.getfield 176, 3) := by decide +kernel
theorem dX11_chooseForAsks_127 : decode cX11_chooseForAsks 127 = .ok (.putfield 72, 3) := by decide +kernel
theorem dX11_chooseForAsks_130 : decode cX11_chooseForAsks 130 = .ok (.aload_n 0, 1) := by decide +kernel
theorem dX11_chooseForAsks_131 : decode cX11_chooseForAsks 131 = .ok (.aload_n 3, 1) := by decide +kernel
theorem dX11_chooseForAsks_132 : decode cX11_chooseForAsks 132 = .ok (.putfield 75, 3) := by decide +kernel
theorem dX11_chooseForAsks_135 : decode cX11_chooseForAsks 135 = .ok (.iload 5, 2) := by decide +kernel
theorem dX11_chooseForAsks_137 : decode cX11_chooseForAsks 137 = .ok (.ireturn, 1) := by decide +kernel
theorem dX11_chooseForAsks_138 : decode cX11_chooseForAsks 138 = .ok (.aload_n 3, 1) := by decide +kernel
theorem dX11_chooseForAsks_139 : decode cX11_chooseForAsks 139 = .ok (.getfield 184, 3) := by decide +kernel
theorem dX11_chooseForAsks_142 : decode cX11_chooseForAsks 142 = .ok (.astore_n 3, 1) := by decide +kernel
theorem dX11_chooseForAsks_143 : decode cX11_chooseForAsks 143 = .ok (.goto (-119), 3) := by decide +kernel
theorem dX11_chooseForAsks_146 : decode cX11_chooseForAsks 146 = .ok (.bipush (-2), 2) := by decide +kernel
theorem dX11_chooseForAsks_148 : decode cX11_chooseForAsks 148 = .ok (.ireturn, 1) := by decide +kernel
theorem dX11_canGo_0 : decode cX11_canGo 0 = .ok (.aload_n 0, 1) := by decide +kernel
theorem dX11_canGo_1 : decode cX11_canGo 1 = .ok (.getfield 30, 3) := by decide +kernel
theorem dX11_canGo_4 : decode cX11_canGo 4 = .ok (.iload_n 1, 1) := by decide +kernel
theorem dX11_canGo_5 : decode cX11_canGo 5 = .ok (.iload_n 2, 1) := by decide +kernel
theorem dX11_canGo_6 : decode cX11_canGo 6 = .ok (.invokevirtual 187, 3) := by decide +kernel
theorem dX11_canGo_9 : decode cX11_canGo 9 = .ok (.ifCond .eq 27, 3) := by decide +kernel
theorem dX11_canGo_12 : decode cX11_canGo 12 = .ok (.aload_n 0, 1) := by decide +kernel
theorem dX11_canGo_13 : decode cX11_canGo 13 = .ok (.getfield 16, 3) := by decide +kernel
theorem dX11_canGo_16 : decode cX11_canGo 16 = .ok (.aload_n 0, 1) := by decide +kernel
theorem dX11_canGo_17 : decode cX11_canGo 17 = .ok (.getfield 9, 3) := by decide +kernel
theorem dX11_canGo_20 : decode cX11_canGo 20 = .ok (.iload_n 1, 1) := by decide +kernel
theorem dX11_canGo_21 : decode cX11_canGo 21 = .ok (.iload_n 2, 1) := by decide +kernel
theorem dX11_canGo_22 : decode cX11_canGo 22 = .ok (.invokevirtual 190, 3) := by decide +kernel
theorem dX11_canGo_25 : decode cX11_canGo 25 = .ok (.aload_n 0, 1) := by decide +kernel
theorem dX11_canGo_26 : decode cX11_canGo 26 = .ok (.getfield 47, 3) := by decide +kernel
theorem dX11_canGo_29 : decode cX11_canGo 29 = .ok (.if_icmp .gt 7, 3) := by decide +kernel
theorem dX11_canGo_32 : decode cX11_canGo 32 = .ok (.iconst 1, 1) := by decide +kernel
theorem dX11_canGo_33 : decode cX11_canGo 33 = .ok (.goto 4, 3) := by decide +kernel
theorem dX11_canGo_36 : decode cX11_canGo 36 = .ok (.iconst 0, 1) := by decide +kernel
theorem dX11_canGo_37 : decode cX11_canGo 37 = .ok (.ireturn, 1) := by decide +kernel
theorem dX11_carryOut_0 : decode cX11_carryOut 0 = .ok (.aload_n 0, 1) := by decide +kernel
theorem dX11_carryOut_1 : decode cX11_carryOut 1 = .ok (.getfield 16, 3) := by decide +kernel
theorem dX11_carryOut_4 : decode cX11_carryOut 4 = .ok (.iload_n 1, 1) := by decide +kernel
theorem dX11_carryOut_5 : decode cX11_carryOut 5 = .ok (.iload_n 2, 1) := by decide +kernel
theorem dX11_carryOut_6 : decode cX11_carryOut 6 = .ok (.aload_n 0, 1) := by decide +kernel
theorem dX11_carryOut_7 : decode cX11_carryOut 7 = .ok (.getfield 47, 3) := by decide +kernel
theorem dX11_carryOut_10 : decode cX11_carryOut 10 = .ok (.invokevirtual 194, 3) := by decide +kernel
theorem dX11_carryOut_13 : decode cX11_carryOut 13 = .ok (.aload_n 0, 1) := by decide +kernel
theorem dX11_carryOut_14 : decode cX11_carryOut 14 = .ok (.dup, 1) := by decide +kernel
theorem dX11_carryOut_15 : decode cX11_carryOut 15 = .ok (.getfield 66, 3) := by decide +kernel
theorem dX11_carryOut_18 : decode cX11_carryOut 18 = .ok (.iconst 1, 1) := by decide +kernel
theorem dX11_carryOut_19 : decode cX11_carryOut 19 = .ok (.iadd, 1) := by decide +kernel
theorem dX11_carryOut_20 : decode cX11_carryOut 20 = .ok (.putfield 66, 3) := by decide +kernel
theorem dX11_carryOut_23 : decode cX11_carryOut 23 = .ok (.aload_n 0, 1) := by decide +kernel
theorem dX11_carryOut_24 : decode cX11_carryOut 24 = .ok (.getfield 23, 3) := by decide +kernel
theorem dX11_carryOut_27 : decode cX11_carryOut 27 = .ok (.iload_n 1, 1) := by decide +kernel
theorem dX11_carryOut_28 : decode cX11_carryOut 28 = .ok (.iload_n 2, 1) := by decide +kernel
theorem dX11_carryOut_29 : decode cX11_carryOut 29 = .ok (.aload_n 3, 1) := by decide +kernel
theorem dX11_carryOut_30 : decode cX11_carryOut 30 = .ok (.aload_n 0, 1) := by decide +kernel
theorem dX11_carryOut_31 : decode cX11_carryOut 31 = .ok (.getfield 47, 3) := by decide +kernel
theorem dX11_carryOut_34 : decode cX11_carryOut 34 = .ok (.invokevirtual 197, 3) := by decide +kernel
theorem dX11_carryOut_37 : decode cX11_carryOut 37 = .ok (.iload_n 1, 1) := by decide +kernel
theorem dX11_carryOut_38 : decode cX11_carryOut 38 = .ok (.iconst 4, 1) := by decide +kernel
theorem dX11_carryOut_39 : decode cX11_carryOut 39 = .ok (.if_icmp .ne 26, 3) := by decide +kernel
theorem dX11_carryOut_42 : decode cX11_carryOut 42 = .ok (.aload_n 0, 1) := by decide +kernel
theorem dX11_carryOut_43 : decode cX11_carryOut 43 = .ok (.dup, 1) := by decide +kernel
theorem dX11_carryOut_44 : decode cX11_carryOut 44 = .ok (.getfield 57, 3) := by decide +kernel
theorem dX11_carryOut_47 : decode cX11_carryOut 47 = .ok (.iconst 1, 1) := by decide +kernel
theorem dX11_carryOut_48 : decode cX11_carryOut 48 = .ok (.isub, 1) := by decide +kernel
theorem dX11_carryOut_49 : decode cX11_carryOut 49 = .ok (.putfield 57, 3) := by decide +kernel
theorem dX11_carryOut_52 : decode cX11_carryOut 52 = .ok (.aload_n 0, 1) := by decide +kernel
theorem dX11_carryOut_53 : decode cX11_carryOut 53 = .ok (.dup, 1) := by decide +kernel
theorem dX11_carryOut_54 : decode cX11_carryOut 54 = .ok (.getfield 69, 3) := by decide +kernel
theorem dX11_carryOut_57 : decode cX11_carryOut 57 = .ok (.iconst 1, 1) := by decide +kernel
theorem dX11_carryOut_58 : decode cX11_carryOut 58 = .ok (.iadd, 1) := by decide +kernel
theorem dX11_carryOut_59 : decode cX11_carryOut 59 = .ok (.putfield 69, 3) := by decide +kernel
theorem dX11_carryOut_62 : decode cX11_carryOut 62 = .ok (.goto 62, 3) := by decide +kernel
theorem dX11_carryOut_65 : decode cX11_carryOut 65 = .ok (.iload_n 1, 1) := by decide +kernel
theorem dX11_carryOut_66 : decode cX11_carryOut 66 = .ok (.iconst 1, 1) := by decide +kernel
theorem dX11_carryOut_67 : decode cX11_carryOut 67 = .ok (.if_icmp .ne 14, 3) := by decide +kernel
theorem dX11_carryOut_70 : decode cX11_carryOut 70 = .ok (.aload_n 0, 1) := by decide +kernel
theorem dX11_carryOut_71 : decode cX11_carryOut 71 = .ok (.getfield 30, 3) := by decide +kernel
theorem dX11_carryOut_74 : decode cX11_carryOut 74 = .ok (.iload_n 2, 1) := by decide +kernel
theorem dX11_carryOut_75 : decode cX11_carryOut 75 = .ok (.invokevirtual 200, 3) := by decide +kernel
theorem dX11_carryOut_78 : decode cX11_carryOut 78 = .ok (.goto 46, 3) := by decide +kernel
theorem dX11_carryOut_81 : decode cX11_carryOut 81 = .ok (.aload_n 3, 1) := by decide +kernel
theorem dX11_carryOut_82 : decode cX11_carryOut 82 = .ok (.ifnull 42, 3) := by decide +kernel
theorem dX11_carryOut_85 : decode cX11_carryOut 85 = .ok (.iload_n 1, 1) := by decide +kernel
theorem dX11_carryOut_86 : decode cX11_carryOut 86 = .ok (.ifCond .ne 18, 3) := by decide +kernel
theorem dX11_carryOut_89 : decode cX11_carryOut 89 = .ok (.aload_n 0, 1) := by decide +kernel
theorem dX11_carryOut_90 : decode cX11_carryOut 90 = .ok (.getfield 30, 3) := by decide +kernel
theorem dX11_carryOut_93 : decode cX11_carryOut 93 = .ok (.iload_n 2, 1) := by decide +kernel
theorem dX11_carryOut_94 : decode cX11_carryOut 94 = .ok (.aload_n 3, 1) := by decide +kernel
theorem dX11_carryOut_95 : decode cX11_carryOut 95 = .ok (.getfield 203, 3) := by decide +kernel
theorem dX11_carryOut_98 : decode cX11_carryOut 98 = .ok (.invokevirtual 206, 3) := by decide +kernel
theorem dX11_carryOut_101 : decode cX11_carryOut 101 = .ok (.goto 23, 3) := by decide +kernel
theorem dX11_carryOut_104 : decode cX11_carryOut 104 = .ok (.aload_n 0, 1) := by decide +kernel
theorem dX11_carryOut_105 : decode cX11_carryOut 105 = .ok (.getfield 30, 3) := by decide +kernel
theorem dX11_carryOut_108 : decode cX11_carryOut 108 = .ok (.aload_n 3, 1) := by decide +kernel
theorem dX11_carryOut_109 : decode cX11_carryOut 109 = .ok (.invokevirtual 210, 3) := by decide +kernel
theorem dX11_carryOut_112 : decode cX11_carryOut 112 = .ok (.aload_n 0, 1) := by decide +kernel
theorem dX11_carryOut_113 : decode cX11_carryOut 113 = .ok (.getfield 37, 3) := by decide +kernel
theorem dX11_carryOut_116 : decode cX11_carryOut 116 = .ok (.aload_n 3, 1) := by decide +kernel
theorem dX11_carryOut_117 : decode cX11_carryOut 117 = .ok (.aload_n 0, 1) := by decide +kernel
theorem dX11_carryOut_118 : decode cX11_carryOut 118 = .ok (.getfield 47, 3) := by decide +kernel
theorem dX11_carryOut_121 : decode cX11_carryOut 121 = .ok (.invokevirtual 214, 3) := by decide +kernel
theorem dX11_carryOut_124 : decode cX11_carryOut 124 = .ok (.return_, 1) := by decide +kernel
theorem dX11_look_0 : decode cX11_look 0 = .ok (.aload_n 0, 1) := by decide +kernel
theorem dX11_look_1 : decode cX11_look 1 = .ok (.getfield 37, 3) := by decide +kernel
theorem dX11_look_4 : decode cX11_look 4 = .ok (.iload_n 1, 1) := by decide +kernel
theorem dX11_look_5 : decode cX11_look 5 = .ok (.invokevirtual 218, 3) := by decide +kernel
theorem dX11_look_8 : decode cX11_look 8 = .ok (.astore_n 3, 1) := by decide +kernel
theorem dX11_look_9 : decode cX11_look 9 = .ok (.aload_n 3, 1) := by decide +kernel
theorem dX11_look_10 : decode cX11_look 10 = .ok (.ifnonnull 5, 3) := by decide +kernel
theorem dX11_look_13 : decode cX11_look 13 = .ok (.iconst (-1), 1) := by decide +kernel
theorem dX11_look_14 : decode cX11_look 14 = .ok (.ireturn, 1) := by decide +kernel
theorem dX11_look_15 : decode cX11_look 15 = .ok (.iload_n 2, 1) := by decide +kernel
theorem dX11_look_16 : decode cX11_look 16 = .ok (.tableswitch 99 0 6 #[44, 49, 54, 59, 64, 69, 74], 44) := by decide +kernel
theorem dX11_look_60 : decode cX11_look 60 = .ok (.aload_n 3, 1) := by decide +kernel
theorem dX11_look_61 : decode cX11_look 61 = .ok (.invokevirtual 222, 3) := by decide +kernel
theorem dX11_look_64 : decode cX11_look 64 = .ok (.ireturn, 1) := by decide +kernel
theorem dX11_look_65 : decode cX11_look 65 = .ok (.aload_n 3, 1) := by decide +kernel
theorem dX11_look_66 : decode cX11_look 66 = .ok (.getfield 225, 3) := by decide +kernel
theorem dX11_look_69 : decode cX11_look 69 = .ok (.ireturn, 1) := by decide +kernel
theorem dX11_look_70 : decode cX11_look 70 = .ok (.aload_n 3, 1) := by decide +kernel
theorem dX11_look_71 : decode cX11_look 71 = .ok (.getfield 228, 3) := by decide +kernel
theorem dX11_look_74 : decode cX11_look 74 = .ok (.ireturn, 1) := by decide +kernel
theorem dX11_look_75 : decode cX11_look 75 = .ok (.aload_n 3, 1) := by decide +kernel
theorem dX11_look_76 : decode cX11_look 76 = .ok (.getfield 231, 3) := by decide +kernel
theorem dX11_look_79 : decode cX11_look 79 = .ok (.ireturn, 1) := by decide +kernel
theorem dX11_look_80 : decode cX11_look 80 = .ok (.aload_n 3, 1) := by decide +kernel
theorem dX11_look_81 : decode cX11_look 81 = .ok (.getfield 232, 3) := by decide +kernel
theorem dX11_look_84 : decode cX11_look 84 = .ok (.ireturn, 1) := by decide +kernel
theorem dX11_look_85 : decode cX11_look 85 = .ok (.aload_n 3, 1) := by decide +kernel
theorem dX11_look_86 : decode cX11_look 86 = .ok (.getfield 235, 3) := by decide +kernel
theorem dX11_look_89 : decode cX11_look 89 = .ok (.ireturn, 1) := by decide +kernel
theorem dX11_look_90 : decode cX11_look 90 = .ok (.aload_n 3, 1) := by decide +kernel
theorem dX11_look_91 : decode cX11_look 91 = .ok (.getfield 232, 3) := by decide +kernel
theorem dX11_look_94 : decode cX11_look 94 = .ok (.ifCond .ne 19, 3) := by decide +kernel
theorem dX11_look_97 : decode cX11_look 97 = .ok (.aload_n 0, 1) := by decide +kernel
theorem dX11_look_98 : decode cX11_look 98 = .ok (.getfield 37, 3) := by decide +kernel
theorem dX11_look_101 : decode cX11_look 101 = .ok (.aload_n 3, 1) := by decide +kernel
theorem dX11_look_102 : decode cX11_look 102 = .ok (.iconst 1, 1) := by decide +kernel
theorem dX11_look_103 : decode cX11_look 103 = .ok (.invokevirtual 172, 3) := by decide +kernel
theorem dX11_look_106 : decode cX11_look 106 = .ok (.ifCond .eq 7, 3) := by decide +kernel
theorem dX11_look_109 : decode cX11_look 109 = .ok (.iconst 1, 1) := by decide +kernel
theorem dX11_look_110 : decode cX11_look 110 = .ok (.goto 4, 3) := by decide +kernel
theorem dX11_look_113 : decode cX11_look 113 = .ok (.iconst 0, 1) := by decide +kernel
theorem dX11_look_114 : decode cX11_look 114 = .ok (.ireturn, 1) := by decide +kernel
theorem dX11_look_115 : decode cX11_look 115 = .ok (.iconst (-1), 1) := by decide +kernel
theorem dX11_look_116 : decode cX11_look 116 = .ok (.ireturn, 1) := by decide +kernel
theorem dX11_at_0 : decode cX11_at 0 = .ok (.iload_n 1, 1) := by decide +kernel
theorem dX11_at_1 : decode cX11_at 1 = .ok (.ifCond .ge 5, 3) := by decide +kernel
theorem dX11_at_4 : decode cX11_at 4 = .ok (.iconst (-1), 1) := by decide +kernel
theorem dX11_at_5 : decode cX11_at 5 = .ok (.ireturn, 1) := by decide +kernel
theorem dX11_at_6 : decode cX11_at 6 = .ok (.iconst 0, 1) := by decide +kernel
theorem dX11_at_7 : decode cX11_at 7 = .ok (.istore_n 2, 1) := by decide +kernel
theorem dX11_at_8 : decode cX11_at 8 = .ok (.aload_n 0, 1) := by decide +kernel
theorem dX11_at_9 : decode cX11_at 9 = .ok (.getfield 37, 3) := by decide +kernel
theorem dX11_at_12 : decode cX11_at 12 = .ok (.aload_n 0, 1) := by decide +kernel
theorem dX11_at_13 : decode cX11_at 13 = .ok (.getfield 60, 3) := by decide +kernel
theorem dX11_at_16 : decode cX11_at 16 = .ok (.aload_n 0, 1) := by decide +kernel
theorem dX11_at_17 : decode cX11_at 17 = .ok (.getfield 63, 3) := by decide +kernel
theorem dX11_at_20 : decode cX11_at 20 = .ok (.aload_n 0, 1) := by decide +kernel
theorem dX11_at_21 : decode cX11_at 21 = .ok (.getfield 30, 3) := by decide +kernel
theorem dX11_at_24 : decode cX11_at 24 = .ok (.invokevirtual 168, 3) := by decide +kernel
theorem dX11_at_27 : decode cX11_at 27 = .ok (.astore_n 3, 1) := by decide +kernel
theorem dX11_at_28 : decode cX11_at 28 = .ok (.aload_n 3, 1) := by decide +kernel
theorem dX11_at_29 : decode cX11_at 29 = .ok (.ifnull 24, 3) := by decide +kernel
theorem dX11_at_32 : decode cX11_at 32 = .ok (.iload_n 2, 1) := by decide +kernel
theorem dX11_at_33 : decode cX11_at 33 = .ok (.iload_n 1, 1) := by decide +kernel
theorem dX11_at_34 : decode cX11_at 34 = .ok (.if_icmp .ne 8, 3) := by decide +kernel
theorem dX11_at_37 : decode cX11_at 37 = .ok (.aload_n 3, 1) := by decide +kernel
theorem dX11_at_38 : decode cX11_at 38 = .ok (.getfield 238, 3) := by decide +kernel
theorem dX11_at_41 : decode cX11_at 41 = .ok (.ireturn, 1) := by decide +kernel
theorem dX11_at_42 : decode cX11_at 42 = .ok (.iinc 2 1, 3) := by decide +kernel
theorem dX11_at_45 : decode cX11_at 45 = .ok (.aload_n 3, 1) := by decide +kernel
theorem dX11_at_46 : decode cX11_at 46 = .ok (.getfield 184, 3) := by decide +kernel
theorem dX11_at_49 : decode cX11_at 49 = .ok (.astore_n 3, 1) := by decide +kernel
theorem dX11_at_50 : decode cX11_at 50 = .ok (.goto (-22), 3) := by decide +kernel
theorem dX11_at_53 : decode cX11_at 53 = .ok (.bipush (-2), 2) := by decide +kernel
theorem dX11_at_55 : decode cX11_at 55 = .ok (.ireturn, 1) := by decide +kernel
theorem dX11_soonest_0 : decode cX11_soonest 0 = .ok (.iload_n 1, 1) := by decide +kernel
theorem dX11_soonest_1 : decode cX11_soonest 1 = .ok (.iconst 0, 1) := by decide +kernel
theorem dX11_soonest_2 : decode cX11_soonest 2 = .ok (.iconst 4, 1) := by decide +kernel
theorem dX11_soonest_3 : decode cX11_soonest 3 = .ok (.invokestatic 89, 3) := by decide +kernel
theorem dX11_soonest_6 : decode cX11_soonest 6 = .ok (.ifCond .eq 15, 3) := by decide +kernel
theorem dX11_soonest_9 : decode cX11_soonest 9 = .ok (.iload_n 1, 1) := by decide +kernel
theorem dX11_soonest_10 : decode cX11_soonest 10 = .ok (.iconst 4, 1) := by decide +kernel
theorem dX11_soonest_11 : decode cX11_soonest 11 = .ok (.if_icmp .eq 12, 3) := by decide +kernel
theorem dX11_soonest_14 : decode cX11_soonest 14 = .ok (.iload_n 2, 1) := by decide +kernel
theorem dX11_soonest_15 : decode cX11_soonest 15 = .ok (.invokestatic 241, 3) := by decide +kernel
theorem dX11_soonest_18 : decode cX11_soonest 18 = .ok (.ifCond .ne 5, 3) := by decide +kernel
theorem dX11_soonest_21 : decode cX11_soonest 21 = .ok (.iconst (-1), 1) := by decide +kernel
theorem dX11_soonest_22 : decode cX11_soonest 22 = .ok (.ireturn, 1) := by decide +kernel
theorem dX11_soonest_23 : decode cX11_soonest 23 = .ok (.aload_n 0, 1) := by decide +kernel
theorem dX11_soonest_24 : decode cX11_soonest 24 = .ok (.getfield 30, 3) := by decide +kernel
theorem dX11_soonest_27 : decode cX11_soonest 27 = .ok (.iload_n 1, 1) := by decide +kernel
theorem dX11_soonest_28 : decode cX11_soonest 28 = .ok (.iload_n 2, 1) := by decide +kernel
theorem dX11_soonest_29 : decode cX11_soonest 29 = .ok (.invokevirtual 187, 3) := by decide +kernel
theorem dX11_soonest_32 : decode cX11_soonest 32 = .ok (.ifCond .ne 6, 3) := by decide +kernel
theorem dX11_soonest_35 : decode cX11_soonest 35 = .ok (.bipush (-2), 2) := by decide +kernel
theorem dX11_soonest_37 : decode cX11_soonest 37 = .ok (.ireturn, 1) := by decide +kernel
theorem dX11_soonest_38 : decode cX11_soonest 38 = .ok (.aload_n 0, 1) := by decide +kernel
theorem dX11_soonest_39 : decode cX11_soonest 39 = .ok (.getfield 47, 3) := by decide +kernel
theorem dX11_soonest_42 : decode cX11_soonest 42 = .ok (.aload_n 0, 1) := by decide +kernel
theorem dX11_soonest_43 : decode cX11_soonest 43 = .ok (.getfield 16, 3) := by decide +kernel
theorem dX11_soonest_46 : decode cX11_soonest 46 = .ok (.aload_n 0, 1) := by decide +kernel
theorem dX11_soonest_47 : decode cX11_soonest 47 = .ok (.getfield 9, 3) := by decide +kernel
theorem dX11_soonest_50 : decode cX11_soonest 50 = .ok (.iload_n 1, 1) := by decide +kernel
theorem dX11_soonest_51 : decode cX11_soonest 51 = .ok (.iload_n 2, 1) := by decide +kernel
theorem dX11_soonest_52 : decode cX11_soonest 52 = .ok (.invokevirtual 190, 3) := by decide +kernel
theorem dX11_soonest_55 : decode cX11_soonest 55 = .ok (.invokestatic 244, 3) := by decide +kernel
theorem dX11_soonest_58 : decode cX11_soonest 58 = .ok (.ireturn, 1) := by decide +kernel
theorem dX11_row_0 : decode cX11_row 0 = .ok (.iload_n 1, 1) := by decide +kernel
theorem dX11_row_1 : decode cX11_row 1 = .ok (.invokestatic 241, 3) := by decide +kernel
theorem dX11_row_4 : decode cX11_row 4 = .ok (.ifCond .eq 15, 3) := by decide +kernel
theorem dX11_row_7 : decode cX11_row 7 = .ok (.aload_n 0, 1) := by decide +kernel
theorem dX11_row_8 : decode cX11_row 8 = .ok (.getfield 30, 3) := by decide +kernel
theorem dX11_row_11 : decode cX11_row 11 = .ok (.getfield 250, 3) := by decide +kernel
theorem dX11_row_14 : decode cX11_row 14 = .ok (.iload_n 1, 1) := by decide +kernel
theorem dX11_row_15 : decode cX11_row 15 = .ok (.iaload, 1) := by decide +kernel
theorem dX11_row_16 : decode cX11_row 16 = .ok (.goto 4, 3) := by decide +kernel
theorem dX11_row_19 : decode cX11_row 19 = .ok (.iconst (-1), 1) := by decide +kernel
theorem dX11_row_20 : decode cX11_row 20 = .ok (.ireturn, 1) := by decide +kernel
theorem dX11_octet_0 : decode cX11_octet 0 = .ok (.iload_n 1, 1) := by decide +kernel
theorem dX11_octet_1 : decode cX11_octet 1 = .ok (.invokestatic 97, 3) := by decide +kernel
theorem dX11_octet_4 : decode cX11_octet 4 = .ok (.ifCond .eq 15, 3) := by decide +kernel
theorem dX11_octet_7 : decode cX11_octet 7 = .ok (.aload_n 0, 1) := by decide +kernel
theorem dX11_octet_8 : decode cX11_octet 8 = .ok (.getfield 30, 3) := by decide +kernel
theorem dX11_octet_11 : decode cX11_octet 11 = .ok (.getfield 253, 3) := by decide +kernel
theorem dX11_octet_14 : decode cX11_octet 14 = .ok (.iload_n 1, 1) := by decide +kernel
theorem dX11_octet_15 : decode cX11_octet 15 = .ok (.iaload, 1) := by decide +kernel
theorem dX11_octet_16 : decode cX11_octet 16 = .ok (.goto 4, 3) := by decide +kernel
theorem dX11_octet_19 : decode cX11_octet 19 = .ok (.iconst (-1), 1) := by decide +kernel
theorem dX11_octet_20 : decode cX11_octet 20 = .ok (.ireturn, 1) := by decide +kernel
theorem dX11_log_0 : decode cX11_log 0 = .ok (.aload_n 0, 1) := by decide +kernel
theorem dX11_log_1 : decode cX11_log 1 = .ok (.getfield 23, 3) := by decide +kernel
theorem dX11_log_4 : decode cX11_log 4 = .ok (.iload_n 1, 1) := by decide +kernel
theorem dX11_log_5 : decode cX11_log 5 = .ok (.invokevirtual 256, 3) := by decide +kernel
theorem dX11_log_8 : decode cX11_log 8 = .ok (.ifCond .ne 5, 3) := by decide +kernel
theorem dX11_log_11 : decode cX11_log 11 = .ok (.iconst (-1), 1) := by decide +kernel
theorem dX11_log_12 : decode cX11_log 12 = .ok (.ireturn, 1) := by decide +kernel
theorem dX11_log_13 : decode cX11_log 13 = .ok (.iload_n 2, 1) := by decide +kernel
theorem dX11_log_14 : decode cX11_log 14 = .ok (.tableswitch 84 0 4 #[34, 44, 54, 64, 74], 34) := by decide +kernel
theorem dX11_log_48 : decode cX11_log 48 = .ok (.aload_n 0, 1) := by decide +kernel
theorem dX11_log_49 : decode cX11_log 49 = .ok (.getfield 23, 3) := by decide +kernel
theorem dX11_log_52 : decode cX11_log 52 = .ok (.getfield 259, 3) := by decide +kernel
theorem dX11_log_55 : decode cX11_log 55 = .ok (.iload_n 1, 1) := by decide +kernel
theorem dX11_log_56 : decode cX11_log 56 = .ok (.iaload, 1) := by decide +kernel
theorem dX11_log_57 : decode cX11_log 57 = .ok (.ireturn, 1) := by decide +kernel
theorem dX11_log_58 : decode cX11_log 58 = .ok (.aload_n 0, 1) := by decide +kernel
theorem dX11_log_59 : decode cX11_log 59 = .ok (.getfield 23, 3) := by decide +kernel
theorem dX11_log_62 : decode cX11_log 62 = .ok (.getfield 262, 3) := by decide +kernel
theorem dX11_log_65 : decode cX11_log 65 = .ok (.iload_n 1, 1) := by decide +kernel
theorem dX11_log_66 : decode cX11_log 66 = .ok (.iaload, 1) := by decide +kernel
theorem dX11_log_67 : decode cX11_log 67 = .ok (.ireturn, 1) := by decide +kernel
theorem dX11_log_68 : decode cX11_log 68 = .ok (.aload_n 0, 1) := by decide +kernel
theorem dX11_log_69 : decode cX11_log 69 = .ok (.getfield 23, 3) := by decide +kernel
theorem dX11_log_72 : decode cX11_log 72 = .ok (.getfield 265, 3) := by decide +kernel
theorem dX11_log_75 : decode cX11_log 75 = .ok (.iload_n 1, 1) := by decide +kernel
theorem dX11_log_76 : decode cX11_log 76 = .ok (.iaload, 1) := by decide +kernel
theorem dX11_log_77 : decode cX11_log 77 = .ok (.ireturn, 1) := by decide +kernel
theorem dX11_log_78 : decode cX11_log 78 = .ok (.aload_n 0, 1) := by decide +kernel
theorem dX11_log_79 : decode cX11_log 79 = .ok (.getfield 23, 3) := by decide +kernel
theorem dX11_log_82 : decode cX11_log 82 = .ok (.getfield 268, 3) := by decide +kernel
theorem dX11_log_85 : decode cX11_log 85 = .ok (.iload_n 1, 1) := by decide +kernel
theorem dX11_log_86 : decode cX11_log 86 = .ok (.iaload, 1) := by decide +kernel
theorem dX11_log_87 : decode cX11_log 87 = .ok (.ireturn, 1) := by decide +kernel
theorem dX11_log_88 : decode cX11_log 88 = .ok (.aload_n 0, 1) := by decide +kernel
theorem dX11_log_89 : decode cX11_log 89 = .ok (.getfield 23, 3) := by decide +kernel
theorem dX11_log_92 : decode cX11_log 92 = .ok (.getfield 271, 3) := by decide +kernel
theorem dX11_log_95 : decode cX11_log 95 = .ok (.iload_n 1, 1) := by decide +kernel
theorem dX11_log_96 : decode cX11_log 96 = .ok (.iaload, 1) := by decide +kernel
theorem dX11_log_97 : decode cX11_log 97 = .ok (.ireturn, 1) := by decide +kernel
theorem dX11_log_98 : decode cX11_log 98 = .ok (.iconst (-1), 1) := by decide +kernel
theorem dX11_log_99 : decode cX11_log 99 = .ok (.ireturn, 1) := by decide +kernel
theorem dX11_forge_0 : decode cX11_forge 0 = .ok (.aload_n 0, 1) := by decide +kernel
theorem dX11_forge_1 : decode cX11_forge 1 = .ok (.getfield 23, 3) := by decide +kernel
theorem dX11_forge_4 : decode cX11_forge 4 = .ok (.iload_n 1, 1) := by decide +kernel
theorem dX11_forge_5 : decode cX11_forge 5 = .ok (.invokevirtual 256, 3) := by decide +kernel
theorem dX11_forge_8 : decode cX11_forge 8 = .ok (.ifCond .eq 14, 3) := by decide +kernel
theorem dX11_forge_11 : decode cX11_forge 11 = .ok (.iload_n 2, 1) := by decide +kernel
theorem dX11_forge_12 : decode cX11_forge 12 = .ok (.iconst 1, 1) := by decide +kernel
theorem dX11_forge_13 : decode cX11_forge 13 = .ok (.ldc_w 274, 3) := by decide +kernel
theorem dX11_forge_16 : decode cX11_forge 16 = .ok (.invokestatic 89, 3) := by decide +kernel
theorem dX11_forge_19 : decode cX11_forge 19 = .ok (.ifCond .ne 5, 3) := by decide +kernel
theorem dX11_forge_22 : decode cX11_forge 22 = .ok (.iconst (-1), 1) := by decide +kernel
theorem dX11_forge_23 : decode cX11_forge 23 = .ok (.ireturn, 1) := by decide +kernel
theorem dX11_forge_24 : decode cX11_forge 24 = .ok (.aload_n 0, 1) := by decide +kernel
theorem dX11_forge_25 : decode cX11_forge 25 = .ok (.getfield 23, 3) := by decide +kernel
theorem dX11_forge_28 : decode cX11_forge 28 = .ok (.getfield 275, 3) := by decide +kernel
theorem dX11_forge_31 : decode cX11_forge 31 = .ok (.iload_n 1, 1) := by decide +kernel
theorem dX11_forge_32 : decode cX11_forge 32 = .ok (.iaload, 1) := by decide +kernel
theorem dX11_forge_33 : decode cX11_forge 33 = .ok (.istore_n 3, 1) := by decide +kernel
theorem dX11_forge_34 : decode cX11_forge 34 = .ok (.aload_n 0, 1) := by decide +kernel
theorem dX11_forge_35 : decode cX11_forge 35 = .ok (.getfield 23, 3) := by decide +kernel
theorem dX11_forge_38 : decode cX11_forge 38 = .ok (.getfield 275, 3) := by decide +kernel
theorem dX11_forge_41 : decode cX11_forge 41 = .ok (.iload_n 1, 1) := by decide +kernel
theorem dX11_forge_42 : decode cX11_forge 42 = .ok (.iload_n 2, 1) := by decide +kernel
theorem dX11_forge_43 : decode cX11_forge 43 = .ok (.iastore, 1) := by decide +kernel
theorem dX11_forge_44 : decode cX11_forge 44 = .ok (.iload_n 3, 1) := by decide +kernel
theorem dX11_forge_45 : decode cX11_forge 45 = .ok (.ireturn, 1) := by decide +kernel
theorem dX11_check_0 : decode cX11_check 0 = .ok (.aload_n 0, 1) := by decide +kernel
theorem dX11_check_1 : decode cX11_check 1 = .ok (.getfield 23, 3) := by decide +kernel
theorem dX11_check_4 : decode cX11_check 4 = .ok (.aload_n 0, 1) := by decide +kernel
theorem dX11_check_5 : decode cX11_check 5 = .ok (.getfield 9, 3) := by decide +kernel
theorem dX11_check_8 : decode cX11_check 8 = .ok (.invokevirtual 278, 3) := by decide +kernel
theorem dX11_check_11 : decode cX11_check 11 = .ok (.ireturn, 1) := by decide +kernel
theorem dX11_broken_0 : decode cX11_broken 0 = .ok (.aload_n 0, 1) := by decide +kernel
theorem dX11_broken_1 : decode cX11_broken 1 = .ok (.getfield 23, 3) := by decide +kernel
theorem dX11_broken_4 : decode cX11_broken 4 = .ok (.getfield 282, 3) := by decide +kernel
theorem dX11_broken_7 : decode cX11_broken 7 = .ok (.ireturn, 1) := by decide +kernel
theorem dX11_worst_0 : decode cX11_worst 0 = .ok (.iload_n 1, 1) := by decide +kernel
theorem dX11_worst_1 : decode cX11_worst 1 = .ok (.invokestatic 93, 3) := by decide +kernel
theorem dX11_worst_4 : decode cX11_worst 4 = .ok (.ifCond .eq 15, 3) := by decide +kernel
theorem dX11_worst_7 : decode cX11_worst 7 = .ok (.aload_n 0, 1) := by decide +kernel
theorem dX11_worst_8 : decode cX11_worst 8 = .ok (.getfield 37, 3) := by decide +kernel
theorem dX11_worst_11 : decode cX11_worst 11 = .ok (.getfield 285, 3) := by decide +kernel
theorem dX11_worst_14 : decode cX11_worst 14 = .ok (.iload_n 1, 1) := by decide +kernel
theorem dX11_worst_15 : decode cX11_worst 15 = .ok (.iaload, 1) := by decide +kernel
theorem dX11_worst_16 : decode cX11_worst 16 = .ok (.goto 4, 3) := by decide +kernel
theorem dX11_worst_19 : decode cX11_worst 19 = .ok (.iconst (-1), 1) := by decide +kernel
theorem dX11_worst_20 : decode cX11_worst 20 = .ok (.ireturn, 1) := by decide +kernel
theorem dX11_beside_0 : decode cX11_beside 0 = .ok (.aload_n 0, 1) := by decide +kernel
theorem dX11_beside_1 : decode cX11_beside 1 = .ok (.getfield 37, 3) := by decide +kernel
theorem dX11_beside_4 : decode cX11_beside 4 = .ok (.aload_n 0, 1) := by decide +kernel
theorem dX11_beside_5 : decode cX11_beside 5 = .ok (.getfield 30, 3) := by decide +kernel
theorem dX11_beside_8 : decode cX11_beside 8 = .ok (.getfield 253, 3) := by decide +kernel
theorem dX11_beside_11 : decode cX11_beside 11 = .ok (.invokevirtual 288, 3) := by decide +kernel
theorem dX11_beside_14 : decode cX11_beside 14 = .ok (.ifCond .eq 7, 3) := by decide +kernel
theorem dX11_beside_17 : decode cX11_beside 17 = .ok (.iconst 1, 1) := by decide +kernel
theorem dX11_beside_18 : decode cX11_beside 18 = .ok (.goto 4, 3) := by decide +kernel
theorem dX11_beside_21 : decode cX11_beside 21 = .ok (.iconst 0, 1) := by decide +kernel
theorem dX11_beside_22 : decode cX11_beside 22 = .ok (.ireturn, 1) := by decide +kernel
theorem dX11_count_0 : decode cX11_count 0 = .ok (.iload_n 1, 1) := by decide +kernel
theorem dX11_count_1 : decode cX11_count 1 = .ok (.tableswitch 128 0 11 #[63, 68, 76, 84, 89, 94, 99, 107, 115, 115, 115, 115], 63) := by decide +kernel
theorem dX11_count_64 : decode cX11_count 64 = .ok (.aload_n 0, 1) := by decide +kernel
theorem dX11_count_65 : decode cX11_count 65 = .ok (.getfield 47, 3) := by decide +kernel
theorem dX11_count_68 : decode cX11_count 68 = .ok (.ireturn, 1) := by decide +kernel
theorem dX11_count_69 : decode cX11_count 69 = .ok (.aload_n 0, 1) := by decide +kernel
theorem dX11_count_70 : decode cX11_count 70 = .ok (.getfield 37, 3) := by decide +kernel
theorem dX11_count_73 : decode cX11_count 73 = .ok (.getfield 102, 3) := by decide +kernel
theorem dX11_count_76 : decode cX11_count 76 = .ok (.ireturn, 1) := by decide +kernel
theorem dX11_count_77 : decode cX11_count 77 = .ok (.aload_n 0, 1) := by decide +kernel
theorem dX11_count_78 : decode cX11_count 78 = .ok (.getfield 37, 3) := by decide +kernel
theorem dX11_count_81 : decode cX11_count 81 = .ok (.getfield 137, 3) := by decide +kernel
theorem dX11_count_84 : decode cX11_count 84 = .ok (.ireturn, 1) := by decide +kernel
theorem dX11_count_85 : decode cX11_count 85 = .ok (.aload_n 0, 1) := by decide +kernel
theorem dX11_count_86 : decode cX11_count 86 = .ok (.getfield 57, 3) := by decide +kernel
theorem dX11_count_89 : decode cX11_count 89 = .ok (.ireturn, 1) := by decide +kernel
theorem dX11_count_90 : decode cX11_count 90 = .ok (.aload_n 0, 1) := by decide +kernel
theorem dX11_count_91 : decode cX11_count 91 = .ok (.getfield 69, 3) := by decide +kernel
theorem dX11_count_94 : decode cX11_count 94 = .ok (.ireturn, 1) := by decide +kernel
theorem dX11_count_95 : decode cX11_count 95 = .ok (.aload_n 0, 1) := by decide +kernel
theorem dX11_count_96 : decode cX11_count 96 = .ok (.getfield 66, 3) := by decide +kernel
theorem dX11_count_99 : decode cX11_count 99 = .ok (.ireturn, 1) := by decide +kernel
theorem dX11_count_100 : decode cX11_count 100 = .ok (.aload_n 0, 1) := by decide +kernel
theorem dX11_count_101 : decode cX11_count 101 = .ok (.getfield 23, 3) := by decide +kernel
theorem dX11_count_104 : decode cX11_count 104 = .ok (.getfield 292, 3) := by decide +kernel
theorem dX11_count_107 : decode cX11_count 107 = .ok (.ireturn, 1) := by decide +kernel
theorem dX11_count_108 : decode cX11_count 108 = .ok (.aload_n 0, 1) := by decide +kernel
theorem dX11_count_109 : decode cX11_count 109 = .ok (.getfield 16, 3) := by decide +kernel
theorem dX11_count_112 : decode cX11_count 112 = .ok (.getfield 295, 3) := by decide +kernel
theorem dX11_count_115 : decode cX11_count 115 = .ok (.ireturn, 1) := by decide +kernel
theorem dX11_count_116 : decode cX11_count 116 = .ok (.aload_n 0, 1) := by decide +kernel
theorem dX11_count_117 : decode cX11_count 117 = .ok (.getfield 37, 3) := by decide +kernel
theorem dX11_count_120 : decode cX11_count 120 = .ok (.getfield 298, 3) := by decide +kernel
theorem dX11_count_123 : decode cX11_count 123 = .ok (.iload_n 1, 1) := by decide +kernel
theorem dX11_count_124 : decode cX11_count 124 = .ok (.bipush 8, 2) := by decide +kernel
theorem dX11_count_126 : decode cX11_count 126 = .ok (.isub, 1) := by decide +kernel
theorem dX11_count_127 : decode cX11_count 127 = .ok (.iaload, 1) := by decide +kernel
theorem dX11_count_128 : decode cX11_count 128 = .ok (.ireturn, 1) := by decide +kernel
theorem dX11_count_129 : decode cX11_count 129 = .ok (.iconst (-1), 1) := by decide +kernel
theorem dX11_count_130 : decode cX11_count 130 = .ok (.ireturn, 1) := by decide +kernel
theorem dX11_keep_0 : decode cX11_keep 0 = .ok (.aload_n 0, 1) := by decide +kernel
theorem dX11_keep_1 : decode cX11_keep 1 = .ok (.iload_n 1, 1) := by decide +kernel
theorem dX11_keep_2 : decode cX11_keep 2 = .ok (.invokevirtual 301, 3) := by decide +kernel
theorem dX11_keep_5 : decode cX11_keep 5 = .ok (.astore 4, 2) := by decide +kernel
theorem dX11_keep_7 : decode cX11_keep 7 = .ok (.aload 4, 2) := by decide +kernel
theorem dX11_keep_9 : decode cX11_keep 9 = .ok (.ifnonnull 5, 3) := by decide +kernel
theorem dX11_keep_12 : decode cX11_keep 12 = .ok (.iconst (-1), 1) := by decide +kernel
theorem dX11_keep_13 : decode cX11_keep 13 = .ok (.ireturn, 1) := by decide +kernel
theorem dX11_keep_14 : decode cX11_keep 14 = .ok (.iload_n 2, 1) := by decide +kernel
theorem dX11_keep_15 : decode cX11_keep 15 = .ok (.tableswitch 83 0 4 #[33, 43, 83, 57, 65], 33) := by decide +kernel
theorem dX11_keep_48 : decode cX11_keep 48 = .ok (.aload 4, 2) := by decide +kernel
theorem dX11_keep_50 : decode cX11_keep 50 = .ok (.aconst_null, 1) := by decide +kernel
theorem dX11_keep_51 : decode cX11_keep 51 = .ok (.aconst_null, 1) := by decide +kernel
theorem dX11_keep_52 : decode cX11_keep 52 = .ok (.iconst 0, 1) := by decide +kernel
theorem dX11_keep_53 : decode cX11_keep 53 = .ok (.invokevirtual 305, 3) := by decide +kernel
theorem dX11_keep_56 : decode cX11_keep 56 = .ok (.iconst 0, 1) := by decide +kernel
theorem dX11_keep_57 : decode cX11_keep 57 = .ok (.ireturn, 1) := by decide +kernel
theorem dX11_keep_58 : decode cX11_keep 58 = .ok (.aload 4, 2) := by decide +kernel
theorem dX11_keep_60 : decode cX11_keep 60 = .ok (.aload_n 0, 1) := by decide +kernel
theorem dX11_keep_61 : decode cX11_keep 61 = .ok (.getfield 37, 3) := by decide +kernel
theorem dX11_keep_64 : decode cX11_keep 64 = .ok (.iload_n 3, 1) := by decide +kernel
theorem dX11_keep_65 : decode cX11_keep 65 = .ok (.invokevirtual 218, 3) := by decide +kernel
theorem dX11_keep_68 : decode cX11_keep 68 = .ok (.invokestatic 309, 3) := by decide +kernel
theorem dX11_keep_71 : decode cX11_keep 71 = .ok (.ireturn, 1) := by decide +kernel
theorem dX11_keep_72 : decode cX11_keep 72 = .ok (.aload_n 0, 1) := by decide +kernel
theorem dX11_keep_73 : decode cX11_keep 73 = .ok (.aload 4, 2) := by decide +kernel
theorem dX11_keep_75 : decode cX11_keep 75 = .ok (.iload_n 3, 1) := by decide +kernel
theorem dX11_keep_76 : decode cX11_keep 76 = .ok (.invokevirtual 313, 3) := by decide +kernel
theorem dX11_keep_79 : decode cX11_keep 79 = .ok (.ireturn, 1) := by decide +kernel
theorem dX11_keep_80 : decode cX11_keep 80 = .ok (.aload 4, 2) := by decide +kernel
theorem dX11_keep_82 : decode cX11_keep 82 = .ok (.aconst_null, 1) := by decide +kernel
theorem dX11_keep_83 : decode cX11_keep 83 = .ok (.aload_n 0, 1) := by decide +kernel
theorem dX11_keep_84 : decode cX11_keep 84 = .ok (.getfield 9, 3) := by decide +kernel
theorem dX11_keep_87 : decode cX11_keep 87 = .ok (.bipush 13, 2) := by decide +kernel
theorem dX11_keep_89 : decode cX11_keep 89 = .ok (.invokestatic 317, 3) := by decide +kernel
theorem dX11_keep_92 : decode cX11_keep 92 = .ok (.iconst 0, 1) := by decide +kernel
theorem dX11_keep_93 : decode cX11_keep 93 = .ok (.invokevirtual 305, 3) := by decide +kernel
theorem dX11_keep_96 : decode cX11_keep 96 = .ok (.iconst 0, 1) := by decide +kernel
theorem dX11_keep_97 : decode cX11_keep 97 = .ok (.ireturn, 1) := by decide +kernel
theorem dX11_keep_98 : decode cX11_keep 98 = .ok (.iconst (-1), 1) := by decide +kernel
theorem dX11_keep_99 : decode cX11_keep 99 = .ok (.ireturn, 1) := by decide +kernel
theorem dX11_keepAsk_0 : decode cX11_keepAsk 0 = .ok (.aload_n 1, 1) := by decide +kernel
theorem dX11_keepAsk_1 : decode cX11_keepAsk 1 = .ok (.ifnonnull 5, 3) := by decide +kernel
theorem dX11_keepAsk_4 : decode cX11_keepAsk 4 = .ok (.iconst (-1), 1) := by decide +kernel
theorem dX11_keepAsk_5 : decode cX11_keepAsk 5 = .ok (.ireturn, 1) := by decide +kernel
theorem dX11_keepAsk_6 : decode cX11_keepAsk 6 = .ok (.aload_n 0, 1) := by decide +kernel
theorem dX11_keepAsk_7 : decode cX11_keepAsk 7 = .ok (.aload_n 1, 1) := by decide +kernel
theorem dX11_keepAsk_8 : decode cX11_keepAsk 8 = .ok (.aconst_null, 1) := by decide +kernel
theorem dX11_keepAsk_9 : decode cX11_keepAsk 9 = .ok (.iconst 0, 1) := by decide +kernel
theorem dX11_keepAsk_10 : decode cX11_keepAsk 10 = .ok (.invokevirtual 305, 3) := by decide +kernel
theorem dX11_keepAsk_13 : decode cX11_keepAsk 13 = .ok (.iconst 0, 1) := by decide +kernel
theorem dX11_keepAsk_14 : decode cX11_keepAsk 14 = .ok (.ireturn, 1) := by decide +kernel
theorem dX11_keepBytes_0 : decode cX11_keepBytes 0 = .ok (.iload_n 2, 1) := by decide +kernel
theorem dX11_keepBytes_1 : decode cX11_keepBytes 1 = .ok (.iconst 0, 1) := by decide +kernel
theorem dX11_keepBytes_2 : decode cX11_keepBytes 2 = .ok (.bipush 63, 2) := by decide +kernel
theorem dX11_keepBytes_4 : decode cX11_keepBytes 4 = .ok (.invokestatic 89, 3) := by decide +kernel
theorem dX11_keepBytes_7 : decode cX11_keepBytes 7 = .ok (.ifCond .ne 5, 3) := by decide +kernel
theorem dX11_keepBytes_10 : decode cX11_keepBytes 10 = .ok (.iconst (-1), 1) := by decide +kernel
theorem dX11_keepBytes_11 : decode cX11_keepBytes 11 = .ok (.ireturn, 1) := by decide +kernel
theorem dX11_keepBytes_12 : decode cX11_keepBytes 12 = .ok (.aload_n 1, 1) := by decide +kernel
theorem dX11_keepBytes_13 : decode cX11_keepBytes 13 = .ok (.aconst_null, 1) := by decide +kernel
theorem dX11_keepBytes_14 : decode cX11_keepBytes 14 = .ok (.aload_n 0, 1) := by decide +kernel
theorem dX11_keepBytes_15 : decode cX11_keepBytes 15 = .ok (.getfield 30, 3) := by decide +kernel
theorem dX11_keepBytes_18 : decode cX11_keepBytes 18 = .ok (.iload_n 2, 1) := by decide +kernel
theorem dX11_keepBytes_19 : decode cX11_keepBytes 19 = .ok (.bipush 16, 2) := by decide +kernel
theorem dX11_keepBytes_21 : decode cX11_keepBytes 21 = .ok (.idiv, 1) := by decide +kernel
theorem dX11_keepBytes_22 : decode cX11_keepBytes 22 = .ok (.iload_n 2, 1) := by decide +kernel
theorem dX11_keepBytes_23 : decode cX11_keepBytes 23 = .ok (.bipush 16, 2) := by decide +kernel
theorem dX11_keepBytes_25 : decode cX11_keepBytes 25 = .ok (.irem, 1) := by decide +kernel
theorem dX11_keepBytes_26 : decode cX11_keepBytes 26 = .ok (.invokevirtual 323, 3) := by decide +kernel
theorem dX11_keepBytes_29 : decode cX11_keepBytes 29 = .ok (.iconst 1, 1) := by decide +kernel
theorem dX11_keepBytes_30 : decode cX11_keepBytes 30 = .ok (.invokevirtual 305, 3) := by decide +kernel
theorem dX11_keepBytes_33 : decode cX11_keepBytes 33 = .ok (.iconst 0, 1) := by decide +kernel
theorem dX11_keepBytes_34 : decode cX11_keepBytes 34 = .ok (.ireturn, 1) := by decide +kernel
theorem dX11_make_0 : decode cX11_make 0 = .ok (.aload_n 0, 1) := by decide +kernel
theorem dX11_make_1 : decode cX11_make 1 = .ok (.iload_n 1, 1) := by decide +kernel
theorem dX11_make_2 : decode cX11_make 2 = .ok (.invokevirtual 301, 3) := by decide +kernel
theorem dX11_make_5 : decode cX11_make 5 = .ok (.astore 4, 2) := by decide +kernel
theorem dX11_make_7 : decode cX11_make 7 = .ok (.aload 4, 2) := by decide +kernel
theorem dX11_make_9 : decode cX11_make 9 = .ok (.ifnull 19, 3) := by decide +kernel
theorem dX11_make_12 : decode cX11_make 12 = .ok (.iload_n 2, 1) := by decide +kernel
theorem dX11_make_13 : decode cX11_make 13 = .ok (.iconst 3, 1) := by decide +kernel
theorem dX11_make_14 : decode cX11_make 14 = .ok (.if_icmp .eq 8, 3) := by decide +kernel
theorem dX11_make_17 : decode cX11_make 17 = .ok (.iload_n 2, 1) := by decide +kernel
theorem dX11_make_18 : decode cX11_make 18 = .ok (.iconst 4, 1) := by decide +kernel
theorem dX11_make_19 : decode cX11_make 19 = .ok (.if_icmp .ne 9, 3) := by decide +kernel
theorem dX11_make_22 : decode cX11_make 22 = .ok (.iload_n 3, 1) := by decide +kernel
theorem dX11_make_23 : decode cX11_make 23 = .ok (.bipush 60, 2) := by decide +kernel
theorem dX11_make_25 : decode cX11_make 25 = .ok (.if_icmp .le 5, 3) := by decide +kernel
theorem dX11_make_28 : decode cX11_make 28 = .ok (.iconst (-1), 1) := by decide +kernel
theorem dX11_make_29 : decode cX11_make 29 = .ok (.ireturn, 1) := by decide +kernel
theorem dX11_make_30 : decode cX11_make 30 = .ok (.iload_n 3, 1) := by decide +kernel
theorem dX11_make_31 : decode cX11_make 31 = .ok (.ifCond .ge 6, 3) := by decide +kernel
theorem dX11_make_34 : decode cX11_make 34 = .ok (.bipush (-14), 2) := by decide +kernel
theorem dX11_make_36 : decode cX11_make 36 = .ok (.ireturn, 1) := by decide +kernel
theorem dX11_make_37 : decode cX11_make 37 = .ok (.aload 4, 2) := by decide +kernel
theorem dX11_make_39 : decode cX11_make 39 = .ok (.aconst_null, 1) := by decide +kernel
theorem dX11_make_40 : decode cX11_make 40 = .ok (.iload_n 3, 1) := by decide +kernel
theorem dX11_make_41 : decode cX11_make 41 = .ok (.newarray .int, 2) := by decide +kernel
theorem dX11_make_43 : decode cX11_make 43 = .ok (.iload_n 2, 1) := by decide +kernel
theorem dX11_make_44 : decode cX11_make 44 = .ok (.iconst 3, 1) := by decide +kernel
theorem dX11_make_45 : decode cX11_make 45 = .ok (.if_icmp .ne 7, 3) := by decide +kernel
theorem dX11_make_48 : decode cX11_make 48 = .ok (.iconst 1, 1) := by decide +kernel
theorem dX11_make_49 : decode cX11_make 49 = .ok (.goto 4, 3) := by decide +kernel
theorem dX11_make_52 : decode cX11_make 52 = .ok (.iconst 0, 1) := by decide +kernel
theorem dX11_make_53 : decode cX11_make 53 = .ok (.invokevirtual 305, 3) := by decide +kernel
theorem dX11_make_56 : decode cX11_make 56 = .ok (.iconst 0, 1) := by decide +kernel
theorem dX11_make_57 : decode cX11_make 57 = .ok (.ireturn, 1) := by decide +kernel
theorem dX11_element_0 : decode cX11_element 0 = .ok (.aload_n 0, 1) := by decide +kernel
theorem dX11_element_1 : decode cX11_element 1 = .ok (.iload_n 1, 1) := by decide +kernel
theorem dX11_element_2 : decode cX11_element 2 = .ok (.invokevirtual 301, 3) := by decide +kernel
theorem dX11_element_5 : decode cX11_element 5 = .ok (.astore_n 3, 1) := by decide +kernel
theorem dX11_element_6 : decode cX11_element 6 = .ok (.aload_n 3, 1) := by decide +kernel
theorem dX11_element_7 : decode cX11_element 7 = .ok (.ifnonnull 14, 3) := by decide +kernel
theorem dX11_element_10 : decode cX11_element 10 = .ok (.new 327, 3) := by decide +kernel
theorem dX11_element_13 : decode cX11_element 13 = .ok (.dup, 1) := by decide +kernel
theorem dX11_element_14 : decode cX11_element 14 = .ok (.ldc_w 329, 3) := by decide +kernel
theorem dX11_element_17 : decode cX11_element 17 = .ok (.invokespecial 331, 3) := by decide +kernel
theorem dX11_element_20 : decode cX11_element 20 = .ok (.athrow, 1) := by decide +kernel
theorem dX11_element_21 : decode cX11_element 21 = .ok (.aload_n 3, 1) := by decide +kernel
theorem dX11_element_22 : decode cX11_element 22 = .ok (.getfield 334, 3) := by decide +kernel
theorem dX11_element_25 : decode cX11_element 25 = .ok (.astore 4, 2) := by decide +kernel
theorem dX11_element_27 : decode cX11_element 27 = .ok (.aload 4, 2) := by decide +kernel
theorem dX11_element_29 : decode cX11_element 29 = .ok (.ifnonnull 14, 3) := by decide +kernel
theorem dX11_element_32 : decode cX11_element 32 = .ok (.new 337, 3) := by decide +kernel
theorem dX11_element_35 : decode cX11_element 35 = .ok (.dup, 1) := by decide +kernel
theorem dX11_element_36 : decode cX11_element 36 = .ok (.ldc_w 339, 3) := by decide +kernel
theorem dX11_element_39 : decode cX11_element 39 = .ok (.invokespecial 341, 3) := by decide +kernel
theorem dX11_element_42 : decode cX11_element 42 = .ok (.athrow, 1) := by decide +kernel
theorem dX11_element_43 : decode cX11_element 43 = .ok (.iload_n 2, 1) := by decide +kernel
theorem dX11_element_44 : decode cX11_element 44 = .ok (.ifCond .lt 10, 3) := by decide +kernel
theorem dX11_element_47 : decode cX11_element 47 = .ok (.iload_n 2, 1) := by decide +kernel
theorem dX11_element_48 : decode cX11_element 48 = .ok (.aload 4, 2) := by decide +kernel
theorem dX11_element_50 : decode cX11_element 50 = .ok (.arraylength, 1) := by decide +kernel
theorem dX11_element_51 : decode cX11_element 51 = .ok (.if_icmp .lt 14, 3) := by decide +kernel
theorem dX11_element_54 : decode cX11_element 54 = .ok (.new 337, 3) := by decide +kernel
theorem dX11_element_57 : decode cX11_element 57 = .ok (.dup, 1) := by decide +kernel
theorem dX11_element_58 : decode cX11_element 58 = .ok (.ldc_w 342, 3) := by decide +kernel
theorem dX11_element_61 : decode cX11_element 61 = .ok (.invokespecial 341, 3) := by decide +kernel
theorem dX11_element_64 : decode cX11_element 64 = .ok (.athrow, 1) := by decide +kernel
theorem dX11_element_65 : decode cX11_element 65 = .ok (.aload 4, 2) := by decide +kernel
theorem dX11_element_67 : decode cX11_element 67 = .ok (.iload_n 2, 1) := by decide +kernel
theorem dX11_element_68 : decode cX11_element 68 = .ok (.iaload, 1) := by decide +kernel
theorem dX11_element_69 : decode cX11_element 69 = .ok (.i2l, 1) := by decide +kernel
theorem dX11_element_70 : decode cX11_element 70 = .ok (.lreturn, 1) := by decide +kernel
theorem dX11_copy_0 : decode cX11_copy 0 = .ok (.aload_n 0, 1) := by decide +kernel
theorem dX11_copy_1 : decode cX11_copy 1 = .ok (.iload_n 1, 1) := by decide +kernel
theorem dX11_copy_2 : decode cX11_copy 2 = .ok (.invokevirtual 301, 3) := by decide +kernel
theorem dX11_copy_5 : decode cX11_copy 5 = .ok (.astore 6, 2) := by decide +kernel
theorem dX11_copy_7 : decode cX11_copy 7 = .ok (.aload_n 0, 1) := by decide +kernel
theorem dX11_copy_8 : decode cX11_copy 8 = .ok (.iload_n 3, 1) := by decide +kernel
theorem dX11_copy_9 : decode cX11_copy 9 = .ok (.invokevirtual 301, 3) := by decide +kernel
theorem dX11_copy_12 : decode cX11_copy 12 = .ok (.astore 7, 2) := by decide +kernel
theorem dX11_copy_14 : decode cX11_copy 14 = .ok (.aload 6, 2) := by decide +kernel
theorem dX11_copy_16 : decode cX11_copy 16 = .ok (.ifnull 8, 3) := by decide +kernel
theorem dX11_copy_19 : decode cX11_copy 19 = .ok (.aload 7, 2) := by decide +kernel
theorem dX11_copy_21 : decode cX11_copy 21 = .ok (.ifnonnull 5, 3) := by decide +kernel
theorem dX11_copy_24 : decode cX11_copy 24 = .ok (.iconst (-1), 1) := by decide +kernel
theorem dX11_copy_25 : decode cX11_copy 25 = .ok (.ireturn, 1) := by decide +kernel
theorem dX11_copy_26 : decode cX11_copy 26 = .ok (.aload 6, 2) := by decide +kernel
theorem dX11_copy_28 : decode cX11_copy 28 = .ok (.invokevirtual 344, 3) := by decide +kernel
theorem dX11_copy_31 : decode cX11_copy 31 = .ok (.ifCond .ne 11, 3) := by decide +kernel
theorem dX11_copy_34 : decode cX11_copy 34 = .ok (.aload 7, 2) := by decide +kernel
theorem dX11_copy_36 : decode cX11_copy 36 = .ok (.invokevirtual 344, 3) := by decide +kernel
theorem dX11_copy_39 : decode cX11_copy 39 = .ok (.ifCond .eq 6, 3) := by decide +kernel
theorem dX11_copy_42 : decode cX11_copy 42 = .ok (.bipush (-11), 2) := by decide +kernel
theorem dX11_copy_44 : decode cX11_copy 44 = .ok (.ireturn, 1) := by decide +kernel
theorem dX11_copy_45 : decode cX11_copy 45 = .ok (.aload 6, 2) := by decide +kernel
theorem dX11_copy_47 : decode cX11_copy 47 = .ok (.getfield 334, 3) := by decide +kernel
theorem dX11_copy_50 : decode cX11_copy 50 = .ok (.astore 8, 2) := by decide +kernel
theorem dX11_copy_52 : decode cX11_copy 52 = .ok (.aload 7, 2) := by decide +kernel
theorem dX11_copy_54 : decode cX11_copy 54 = .ok (.getfield 334, 3) := by decide +kernel
theorem dX11_copy_57 : decode cX11_copy 57 = .ok (.astore 9, 2) := by decide +kernel
theorem dX11_copy_59 : decode cX11_copy 59 = .ok (.aload 8, 2) := by decide +kernel
theorem dX11_copy_61 : decode cX11_copy 61 = .ok (.ifnull 21, 3) := by decide +kernel
theorem dX11_copy_64 : decode cX11_copy 64 = .ok (.aload 9, 2) := by decide +kernel
theorem dX11_copy_66 : decode cX11_copy 66 = .ok (.ifnull 16, 3) := by decide +kernel
theorem dX11_copy_69 : decode cX11_copy 69 = .ok (.aload 6, 2) := by decide +kernel
theorem dX11_copy_71 : decode cX11_copy 71 = .ok (.getfield 348, 3) := by decide +kernel
theorem dX11_copy_74 : decode cX11_copy 74 = .ok (.aload 7, 2) := by decide +kernel
theorem dX11_copy_76 : decode cX11_copy 76 = .ok (.getfield 348, 3) := by decide +kernel
theorem dX11_copy_79 : decode cX11_copy 79 = .ok (.if_icmp .eq 6, 3) := by decide +kernel
theorem dX11_copy_82 : decode cX11_copy 82 = .ok (.bipush (-12), 2) := by decide +kernel
theorem dX11_copy_84 : decode cX11_copy 84 = .ok (.ireturn, 1) := by decide +kernel
theorem dX11_copy_85 : decode cX11_copy 85 = .ok (.aload 8, 2) := by decide +kernel
theorem dX11_copy_87 : decode cX11_copy 87 = .ok (.iload_n 2, 1) := by decide +kernel
theorem dX11_copy_88 : decode cX11_copy 88 = .ok (.iload 5, 2) := by decide +kernel
theorem dX11_copy_90 : decode cX11_copy 90 = .ok (.invokestatic 352, 3) := by decide +kernel
theorem dX11_copy_93 : decode cX11_copy 93 = .ok (.ifCond .eq 15, 3) := by decide +kernel
theorem dX11_copy_96 : decode cX11_copy 96 = .ok (.aload 9, 2) := by decide +kernel
theorem dX11_copy_98 : decode cX11_copy 98 = .ok (.iload 4, 2) := by decide +kernel
theorem dX11_copy_100 : decode cX11_copy 100 = .ok (.iload 5, 2) := by decide +kernel
theorem dX11_copy_102 : decode cX11_copy 102 = .ok (.invokestatic 352, 3) := by decide +kernel
theorem dX11_copy_105 : decode cX11_copy 105 = .ok (.ifCond .ne 6, 3) := by decide +kernel
theorem dX11_copy_108 : decode cX11_copy 108 = .ok (.bipush (-13), 2) := by decide +kernel
theorem dX11_copy_110 : decode cX11_copy 110 = .ok (.ireturn, 1) := by decide +kernel
theorem dX11_copy_111 : decode cX11_copy 111 = .ok (.aload 8, 2) := by decide +kernel
theorem dX11_copy_113 : decode cX11_copy 113 = .ok (.iload_n 2, 1) := by decide +kernel
theorem dX11_copy_114 : decode cX11_copy 114 = .ok (.aload 9, 2) := by decide +kernel
theorem dX11_copy_116 : decode cX11_copy 116 = .ok (.iload 4, 2) := by decide +kernel
theorem dX11_copy_118 : decode cX11_copy 118 = .ok (.iload 5, 2) := by decide +kernel
theorem dX11_copy_120 : decode cX11_copy 120 = .ok (.invokestatic 82, 3) := by decide +kernel
theorem dX11_copy_123 : decode cX11_copy 123 = .ok (.iload 5, 2) := by decide +kernel
theorem dX11_copy_125 : decode cX11_copy 125 = .ok (.ireturn, 1) := by decide +kernel
theorem dX11_weight_0 : decode cX11_weight 0 = .ok (.aload_n 0, 1) := by decide +kernel
theorem dX11_weight_1 : decode cX11_weight 1 = .ok (.iload_n 1, 1) := by decide +kernel
theorem dX11_weight_2 : decode cX11_weight 2 = .ok (.invokevirtual 301, 3) := by decide +kernel
theorem dX11_weight_5 : decode cX11_weight 5 = .ok (.astore_n 2, 1) := by decide +kernel
theorem dX11_weight_6 : decode cX11_weight 6 = .ok (.aload_n 2, 1) := by decide +kernel
theorem dX11_weight_7 : decode cX11_weight 7 = .ok (.ifnonnull 5, 3) := by decide +kernel
theorem dX11_weight_10 : decode cX11_weight 10 = .ok (.iconst (-1), 1) := by decide +kernel
theorem dX11_weight_11 : decode cX11_weight 11 = .ok (.ireturn, 1) := by decide +kernel
theorem dX11_weight_12 : decode cX11_weight 12 = .ok (.aload_n 2, 1) := by decide +kernel
theorem dX11_weight_13 : decode cX11_weight 13 = .ok (.getfield 356, 3) := by decide +kernel
theorem dX11_weight_16 : decode cX11_weight 16 = .ok (.astore_n 3, 1) := by decide +kernel
theorem dX11_weight_17 : decode cX11_weight 17 = .ok (.aload_n 3, 1) := by decide +kernel
theorem dX11_weight_18 : decode cX11_weight 18 = .ok (.ifnonnull 10, 3) := by decide +kernel
theorem dX11_weight_21 : decode cX11_weight 21 = .ok (.aload_n 2, 1) := by decide +kernel
theorem dX11_weight_22 : decode cX11_weight 22 = .ok (.invokevirtual 359, 3) := by decide +kernel
theorem dX11_weight_25 : decode cX11_weight 25 = .ok (.goto 7, 3) := by decide +kernel
theorem dX11_weight_28 : decode cX11_weight 28 = .ok (.aload_n 3, 1) := by decide +kernel
theorem dX11_weight_29 : decode cX11_weight 29 = .ok (.invokevirtual 362, 3) := by decide +kernel
theorem dX11_weight_32 : decode cX11_weight 32 = .ok (.ireturn, 1) := by decide +kernel
theorem dX11_toss_0 : decode cX11_toss 0 = .ok (.aload_n 0, 1) := by decide +kernel
theorem dX11_toss_1 : decode cX11_toss 1 = .ok (.iload_n 1, 1) := by decide +kernel
theorem dX11_toss_2 : decode cX11_toss 2 = .ok (.invokevirtual 301, 3) := by decide +kernel
theorem dX11_toss_5 : decode cX11_toss 5 = .ok (.astore_n 2, 1) := by decide +kernel
theorem dX11_toss_6 : decode cX11_toss 6 = .ok (.aload_n 2, 1) := by decide +kernel
theorem dX11_toss_7 : decode cX11_toss 7 = .ok (.ifnonnull 5, 3) := by decide +kernel
theorem dX11_toss_10 : decode cX11_toss 10 = .ok (.iconst (-1), 1) := by decide +kernel
theorem dX11_toss_11 : decode cX11_toss 11 = .ok (.ireturn, 1) := by decide +kernel
theorem dX11_toss_12 : decode cX11_toss 12 = .ok (.aload_n 2, 1) := by decide +kernel
theorem dX11_toss_13 : decode cX11_toss 13 = .ok (.getfield 356, 3) := by decide +kernel
theorem dX11_toss_16 : decode cX11_toss 16 = .ok (.astore_n 3, 1) := by decide +kernel
theorem dX11_toss_17 : decode cX11_toss 17 = .ok (.aload_n 3, 1) := by decide +kernel
theorem dX11_toss_18 : decode cX11_toss 18 = .ok (.ifnonnull 8, 3) := by decide +kernel
theorem dX11_toss_21 : decode cX11_toss 21 = .ok (.aload_n 2, 1) := by decide +kernel
theorem dX11_toss_22 : decode cX11_toss 22 = .ok (.invokevirtual 359, 3) := by decide +kernel
theorem dX11_toss_25 : decode cX11_toss 25 = .ok (.ireturn, 1) := by decide +kernel
theorem dX11_toss_26 : decode cX11_toss 26 = .ok (.aload_n 3, 1) := by decide +kernel
theorem dX11_toss_27 : decode cX11_toss 27 = .ok (.invokevirtual 365, 3) := by decide +kernel
theorem dX11_toss_30 : decode cX11_toss 30 = .ok (.goto 10, 3) := by decide +kernel
theorem dX11_toss_33 : decode cX11_toss 33 = .ok (.astore 4, 2) := by decide +kernel
theorem dX11_toss_35 : decode cX11_toss 35 = .ok (.aload_n 3, 1) := by decide +kernel
theorem dX11_toss_36 : decode cX11_toss 36 = .ok (.getfield 238, 3) := by decide +kernel
theorem dX11_toss_39 : decode cX11_toss 39 = .ok (.ireturn, 1) := by decide +kernel
theorem dX11_toss_40 : decode cX11_toss 40 = .ok (.bipush (-15), 2) := by decide +kernel
theorem dX11_toss_42 : decode cX11_toss 42 = .ok (.ireturn, 1) := by decide +kernel
theorem dX11_findShelf_0 : decode cX11_findShelf 0 = .ok (.iload_n 1, 1) := by decide +kernel
theorem dX11_findShelf_1 : decode cX11_findShelf 1 = .ok (.ifCond .lt 9, 3) := by decide +kernel
theorem dX11_findShelf_4 : decode cX11_findShelf 4 = .ok (.iload_n 1, 1) := by decide +kernel
theorem dX11_findShelf_5 : decode cX11_findShelf 5 = .ok (.bipush 8, 2) := by decide +kernel
theorem dX11_findShelf_7 : decode cX11_findShelf 7 = .ok (.if_icmp .lt 7, 3) := by decide +kernel
theorem dX11_findShelf_10 : decode cX11_findShelf 10 = .ok (.aconst_null, 1) := by decide +kernel
theorem dX11_findShelf_11 : decode cX11_findShelf 11 = .ok (.goto 9, 3) := by decide +kernel
theorem dX11_findShelf_14 : decode cX11_findShelf 14 = .ok (.aload_n 0, 1) := by decide +kernel
theorem dX11_findShelf_15 : decode cX11_findShelf 15 = .ok (.getfield 43, 3) := by decide +kernel
theorem dX11_findShelf_18 : decode cX11_findShelf 18 = .ok (.iload_n 1, 1) := by decide +kernel
theorem dX11_findShelf_19 : decode cX11_findShelf 19 = .ok (.aaload, 1) := by decide +kernel
theorem dX11_findShelf_20 : decode cX11_findShelf 20 = .ok (.areturn, 1) := by decide +kernel
theorem dX11_isWithin_0 : decode cX11_isWithin 0 = .ok (.iload_n 0, 1) := by decide +kernel
theorem dX11_isWithin_1 : decode cX11_isWithin 1 = .ok (.iload_n 1, 1) := by decide +kernel
theorem dX11_isWithin_2 : decode cX11_isWithin 2 = .ok (.if_icmp .lt 12, 3) := by decide +kernel
theorem dX11_isWithin_5 : decode cX11_isWithin 5 = .ok (.iload_n 0, 1) := by decide +kernel
theorem dX11_isWithin_6 : decode cX11_isWithin 6 = .ok (.iload_n 2, 1) := by decide +kernel
theorem dX11_isWithin_7 : decode cX11_isWithin 7 = .ok (.if_icmp .gt 7, 3) := by decide +kernel
theorem dX11_isWithin_10 : decode cX11_isWithin 10 = .ok (.iconst 1, 1) := by decide +kernel
theorem dX11_isWithin_11 : decode cX11_isWithin 11 = .ok (.goto 4, 3) := by decide +kernel
theorem dX11_isWithin_14 : decode cX11_isWithin 14 = .ok (.iconst 0, 1) := by decide +kernel
theorem dX11_isWithin_15 : decode cX11_isWithin 15 = .ok (.ireturn, 1) := by decide +kernel
theorem dX11_isAsker_0 : decode cX11_isAsker 0 = .ok (.iload_n 0, 1) := by decide +kernel
theorem dX11_isAsker_1 : decode cX11_isAsker 1 = .ok (.iconst 0, 1) := by decide +kernel
theorem dX11_isAsker_2 : decode cX11_isAsker 2 = .ok (.iconst 3, 1) := by decide +kernel
theorem dX11_isAsker_3 : decode cX11_isAsker 3 = .ok (.invokestatic 89, 3) := by decide +kernel
theorem dX11_isAsker_6 : decode cX11_isAsker 6 = .ok (.ireturn, 1) := by decide +kernel
theorem dX11_isBank_0 : decode cX11_isBank 0 = .ok (.iload_n 0, 1) := by decide +kernel
theorem dX11_isBank_1 : decode cX11_isBank 1 = .ok (.iconst 0, 1) := by decide +kernel
theorem dX11_isBank_2 : decode cX11_isBank 2 = .ok (.iconst 3, 1) := by decide +kernel
theorem dX11_isBank_3 : decode cX11_isBank 3 = .ok (.invokestatic 89, 3) := by decide +kernel
theorem dX11_isBank_6 : decode cX11_isBank 6 = .ok (.ireturn, 1) := by decide +kernel
theorem dX11_isAddress_0 : decode cX11_isAddress 0 = .ok (.iload_n 0, 1) := by decide +kernel
theorem dX11_isAddress_1 : decode cX11_isAddress 1 = .ok (.iconst 0, 1) := by decide +kernel
theorem dX11_isAddress_2 : decode cX11_isAddress 2 = .ok (.sipush 1023, 3) := by decide +kernel
theorem dX11_isAddress_5 : decode cX11_isAddress 5 = .ok (.invokestatic 89, 3) := by decide +kernel
theorem dX11_isAddress_8 : decode cX11_isAddress 8 = .ok (.ireturn, 1) := by decide +kernel
theorem dX11_isOctet_0 : decode cX11_isOctet 0 = .ok (.iload_n 0, 1) := by decide +kernel
theorem dX11_isOctet_1 : decode cX11_isOctet 1 = .ok (.iconst 0, 1) := by decide +kernel
theorem dX11_isOctet_2 : decode cX11_isOctet 2 = .ok (.sipush 255, 3) := by decide +kernel
theorem dX11_isOctet_5 : decode cX11_isOctet 5 = .ok (.invokestatic 89, 3) := by decide +kernel
theorem dX11_isOctet_8 : decode cX11_isOctet 8 = .ok (.ireturn, 1) := by decide +kernel
theorem dX11_hasSpan_0 : decode cX11_hasSpan 0 = .ok (.iload_n 2, 1) := by decide +kernel
theorem dX11_hasSpan_1 : decode cX11_hasSpan 1 = .ok (.ifCond .lt 25, 3) := by decide +kernel
theorem dX11_hasSpan_4 : decode cX11_hasSpan 4 = .ok (.iload_n 1, 1) := by decide +kernel
theorem dX11_hasSpan_5 : decode cX11_hasSpan 5 = .ok (.iconst 0, 1) := by decide +kernel
theorem dX11_hasSpan_6 : decode cX11_hasSpan 6 = .ok (.aload_n 0, 1) := by decide +kernel
theorem dX11_hasSpan_7 : decode cX11_hasSpan 7 = .ok (.arraylength, 1) := by decide +kernel
theorem dX11_hasSpan_8 : decode cX11_hasSpan 8 = .ok (.invokestatic 89, 3) := by decide +kernel
theorem dX11_hasSpan_11 : decode cX11_hasSpan 11 = .ok (.ifCond .eq 15, 3) := by decide +kernel
theorem dX11_hasSpan_14 : decode cX11_hasSpan 14 = .ok (.iload_n 2, 1) := by decide +kernel
theorem dX11_hasSpan_15 : decode cX11_hasSpan 15 = .ok (.aload_n 0, 1) := by decide +kernel
theorem dX11_hasSpan_16 : decode cX11_hasSpan 16 = .ok (.arraylength, 1) := by decide +kernel
theorem dX11_hasSpan_17 : decode cX11_hasSpan 17 = .ok (.iload_n 1, 1) := by decide +kernel
theorem dX11_hasSpan_18 : decode cX11_hasSpan 18 = .ok (.isub, 1) := by decide +kernel
theorem dX11_hasSpan_19 : decode cX11_hasSpan 19 = .ok (.if_icmp .gt 7, 3) := by decide +kernel
theorem dX11_hasSpan_22 : decode cX11_hasSpan 22 = .ok (.iconst 1, 1) := by decide +kernel
theorem dX11_hasSpan_23 : decode cX11_hasSpan 23 = .ok (.goto 4, 3) := by decide +kernel
theorem dX11_hasSpan_26 : decode cX11_hasSpan 26 = .ok (.iconst 0, 1) := by decide +kernel
theorem dX11_hasSpan_27 : decode cX11_hasSpan 27 = .ok (.ireturn, 1) := by decide +kernel
