theorem dX0_init_0 : decode cX0_init 0 = .ok (.aload_n 0, 1) := by decide +kernel
theorem dX0_init_1 : decode cX0_init 1 = .ok (.invokespecial 3, 3) := by decide +kernel
theorem dX0_init_4 : decode cX0_init 4 = .ok (.aload_n 0, 1) := by decide +kernel
theorem dX0_init_5 : decode cX0_init 5 = .ok (.iconst 0, 1) := by decide +kernel
theorem dX0_init_6 : decode cX0_init 6 = .ok (.putfield 9, 3) := by decide +kernel
theorem dX0_init_9 : decode cX0_init 9 = .ok (.aload_n 0, 1) := by decide +kernel
theorem dX0_init_10 : decode cX0_init 10 = .ok (.bipush (-2), 2) := by decide +kernel
theorem dX0_init_12 : decode cX0_init 12 = .ok (.putfield 15, 3) := by decide +kernel
theorem dX0_init_15 : decode cX0_init 15 = .ok (.aload_n 0, 1) := by decide +kernel
theorem dX0_init_16 : decode cX0_init 16 = .ok (.aconst_null, 1) := by decide +kernel
theorem dX0_init_17 : decode cX0_init 17 = .ok (.putfield 18, 3) := by decide +kernel
theorem dX0_init_20 : decode cX0_init 20 = .ok (.aload_n 0, 1) := by decide +kernel
theorem dX0_init_21 : decode cX0_init 21 = .ok (.aconst_null, 1) := by decide +kernel
theorem dX0_init_22 : decode cX0_init 22 = .ok (.putfield 22, 3) := by decide +kernel
theorem dX0_init_25 : decode cX0_init 25 = .ok (.aload_n 0, 1) := by decide +kernel
theorem dX0_init_26 : decode cX0_init 26 = .ok (.iconst 0, 1) := by decide +kernel
theorem dX0_init_27 : decode cX0_init 27 = .ok (.putfield 25, 3) := by decide +kernel
theorem dX0_init_30 : decode cX0_init 30 = .ok (.aload_n 0, 1) := by decide +kernel
theorem dX0_init_31 : decode cX0_init 31 = .ok (.iload_n 1, 1) := by decide +kernel
theorem dX0_init_32 : decode cX0_init 32 = .ok (.putfield 28, 3) := by decide +kernel
theorem dX0_init_35 : decode cX0_init 35 = .ok (.aload_n 0, 1) := by decide +kernel
theorem dX0_init_36 : decode cX0_init 36 = .ok (.iload_n 2, 1) := by decide +kernel
theorem dX0_init_37 : decode cX0_init 37 = .ok (.putfield 31, 3) := by decide +kernel
theorem dX0_init_40 : decode cX0_init 40 = .ok (.aload_n 0, 1) := by decide +kernel
theorem dX0_init_41 : decode cX0_init 41 = .ok (.iload_n 3, 1) := by decide +kernel
theorem dX0_init_42 : decode cX0_init 42 = .ok (.putfield 34, 3) := by decide +kernel
theorem dX0_init_45 : decode cX0_init 45 = .ok (.aload_n 0, 1) := by decide +kernel
theorem dX0_init_46 : decode cX0_init 46 = .ok (.iload_n 3, 1) := by decide +kernel
theorem dX0_init_47 : decode cX0_init 47 = .ok (.invokestatic 37, 3) := by decide +kernel
theorem dX0_init_50 : decode cX0_init 50 = .ok (.putfield 43, 3) := by decide +kernel
theorem dX0_init_53 : decode cX0_init 53 = .ok (.aload_n 0, 1) := by decide +kernel
theorem dX0_init_54 : decode cX0_init 54 = .ok (.iload_n 3, 1) := by decide +kernel
theorem dX0_init_55 : decode cX0_init 55 = .ok (.invokestatic 46, 3) := by decide +kernel
theorem dX0_init_58 : decode cX0_init 58 = .ok (.putfield 49, 3) := by decide +kernel
theorem dX0_init_61 : decode cX0_init 61 = .ok (.aload_n 0, 1) := by decide +kernel
theorem dX0_init_62 : decode cX0_init 62 = .ok (.iload 4, 2) := by decide +kernel
theorem dX0_init_64 : decode cX0_init 64 = .ok (.putfield 52, 3) := by decide +kernel
theorem dX0_init_67 : decode cX0_init 67 = .ok (.return_, 1) := by decide +kernel
theorem dX0_heft_0 : decode cX0_heft 0 = .ok (.iconst 5, 1) := by decide +kernel
theorem dX0_heft_1 : decode cX0_heft 1 = .ok (.aload_n 0, 1) := by decide +kernel
theorem dX0_heft_2 : decode cX0_heft 2 = .ok (.getfield 31, 3) := by decide +kernel
theorem dX0_heft_5 : decode cX0_heft 5 = .ok (.iadd, 1) := by decide +kernel
theorem dX0_heft_6 : decode cX0_heft 6 = .ok (.ireturn, 1) := by decide +kernel
theorem dX0_doneBy_0 : decode cX0_doneBy 0 = .ok (.iconst 3, 1) := by decide +kernel
theorem dX0_doneBy_1 : decode cX0_doneBy 1 = .ok (.ireturn, 1) := by decide +kernel
theorem dX0_answerFrom_0 : decode cX0_answerFrom 0 = .ok (.bipush (-2), 2) := by decide +kernel
theorem dX0_answerFrom_2 : decode cX0_answerFrom 2 = .ok (.ireturn, 1) := by decide +kernel
theorem dX0_octetAfter_0 : decode cX0_octetAfter 0 = .ok (.iload_n 1, 1) := by decide +kernel
theorem dX0_octetAfter_1 : decode cX0_octetAfter 1 = .ok (.ireturn, 1) := by decide +kernel
theorem dX0_fail_0 : decode cX0_fail 0 = .ok (.new 55, 3) := by decide +kernel
theorem dX0_fail_3 : decode cX0_fail 3 = .ok (.dup, 1) := by decide +kernel
theorem dX0_fail_4 : decode cX0_fail 4 = .ok (.ldc 57, 2) := by decide +kernel
theorem dX0_fail_6 : decode cX0_fail 6 = .ok (.invokespecial 59, 3) := by decide +kernel
theorem dX0_fail_9 : decode cX0_fail 9 = .ok (.athrow, 1) := by decide +kernel
theorem dX0_isFence_0 : decode cX0_isFence 0 = .ok (.aload_n 0, 1) := by decide +kernel
theorem dX0_isFence_1 : decode cX0_isFence 1 = .ok (.invokevirtual 62, 3) := by decide +kernel
theorem dX0_isFence_4 : decode cX0_isFence 4 = .ok (.iconst 4, 1) := by decide +kernel
theorem dX0_isFence_5 : decode cX0_isFence 5 = .ok (.if_icmp .ne 7, 3) := by decide +kernel
theorem dX0_isFence_8 : decode cX0_isFence 8 = .ok (.iconst 1, 1) := by decide +kernel
theorem dX0_isFence_9 : decode cX0_isFence 9 = .ok (.goto 4, 3) := by decide +kernel
theorem dX0_isFence_12 : decode cX0_isFence 12 = .ok (.iconst 0, 1) := by decide +kernel
theorem dX0_isFence_13 : decode cX0_isFence 13 = .ok (.ireturn, 1) := by decide +kernel
theorem dX0_clashesWith_0 : decode cX0_clashesWith 0 = .ok (.aload_n 0, 1) := by decide +kernel
theorem dX0_clashesWith_1 : decode cX0_clashesWith 1 = .ok (.getfield 34, 3) := by decide +kernel
theorem dX0_clashesWith_4 : decode cX0_clashesWith 4 = .ok (.bipush (-2), 2) := by decide +kernel
theorem dX0_clashesWith_6 : decode cX0_clashesWith 6 = .ok (.if_icmp .eq 32, 3) := by decide +kernel
theorem dX0_clashesWith_9 : decode cX0_clashesWith 9 = .ok (.aload_n 0, 1) := by decide +kernel
theorem dX0_clashesWith_10 : decode cX0_clashesWith 10 = .ok (.getfield 34, 3) := by decide +kernel
theorem dX0_clashesWith_13 : decode cX0_clashesWith 13 = .ok (.aload_n 1, 1) := by decide +kernel
theorem dX0_clashesWith_14 : decode cX0_clashesWith 14 = .ok (.getfield 34, 3) := by decide +kernel
theorem dX0_clashesWith_17 : decode cX0_clashesWith 17 = .ok (.if_icmp .ne 21, 3) := by decide +kernel
theorem dX0_clashesWith_20 : decode cX0_clashesWith 20 = .ok (.aload_n 0, 1) := by decide +kernel
theorem dX0_clashesWith_21 : decode cX0_clashesWith 21 = .ok (.invokevirtual 62, 3) := by decide +kernel
theorem dX0_clashesWith_24 : decode cX0_clashesWith 24 = .ok (.ifCond .ne 10, 3) := by decide +kernel
theorem dX0_clashesWith_27 : decode cX0_clashesWith 27 = .ok (.aload_n 1, 1) := by decide +kernel
theorem dX0_clashesWith_28 : decode cX0_clashesWith 28 = .ok (.invokevirtual 62, 3) := by decide +kernel
theorem dX0_clashesWith_31 : decode cX0_clashesWith 31 = .ok (.ifCond .eq 7, 3) := by decide +kernel
theorem dX0_clashesWith_34 : decode cX0_clashesWith 34 = .ok (.iconst 1, 1) := by decide +kernel
theorem dX0_clashesWith_35 : decode cX0_clashesWith 35 = .ok (.goto 4, 3) := by decide +kernel
theorem dX0_clashesWith_38 : decode cX0_clashesWith 38 = .ok (.iconst 0, 1) := by decide +kernel
theorem dX0_clashesWith_39 : decode cX0_clashesWith 39 = .ok (.ireturn, 1) := by decide +kernel
theorem dX1_init_0 : decode cX1_init 0 = .ok (.aload_n 0, 1) := by decide +kernel
theorem dX1_init_1 : decode cX1_init 1 = .ok (.invokespecial 3, 3) := by decide +kernel
theorem dX1_init_4 : decode cX1_init 4 = .ok (.aload_n 0, 1) := by decide +kernel
theorem dX1_init_5 : decode cX1_init 5 = .ok (.sipush 400, 3) := by decide +kernel
theorem dX1_init_8 : decode cX1_init 8 = .ok (.newarray .int, 2) := by decide +kernel
theorem dX1_init_10 : decode cX1_init 10 = .ok (.putfield 9, 3) := by decide +kernel
theorem dX1_init_13 : decode cX1_init 13 = .ok (.aload_n 0, 1) := by decide +kernel
theorem dX1_init_14 : decode cX1_init 14 = .ok (.sipush 400, 3) := by decide +kernel
theorem dX1_init_17 : decode cX1_init 17 = .ok (.newarray .int, 2) := by decide +kernel
theorem dX1_init_19 : decode cX1_init 19 = .ok (.putfield 15, 3) := by decide +kernel
theorem dX1_init_22 : decode cX1_init 22 = .ok (.aload_n 0, 1) := by decide +kernel
theorem dX1_init_23 : decode cX1_init 23 = .ok (.sipush 400, 3) := by decide +kernel
theorem dX1_init_26 : decode cX1_init 26 = .ok (.newarray .int, 2) := by decide +kernel
theorem dX1_init_28 : decode cX1_init 28 = .ok (.putfield 18, 3) := by decide +kernel
theorem dX1_init_31 : decode cX1_init 31 = .ok (.aload_n 0, 1) := by decide +kernel
theorem dX1_init_32 : decode cX1_init 32 = .ok (.sipush 400, 3) := by decide +kernel
theorem dX1_init_35 : decode cX1_init 35 = .ok (.newarray .int, 2) := by decide +kernel
theorem dX1_init_37 : decode cX1_init 37 = .ok (.putfield 21, 3) := by decide +kernel
theorem dX1_init_40 : decode cX1_init 40 = .ok (.aload_n 0, 1) := by decide +kernel
theorem dX1_init_41 : decode cX1_init 41 = .ok (.sipush 400, 3) := by decide +kernel
theorem dX1_init_44 : decode cX1_init 44 = .ok (.newarray .int, 2) := by decide +kernel
theorem dX1_init_46 : decode cX1_init 46 = .ok (.putfield 24, 3) := by decide +kernel
theorem dX1_init_49 : decode cX1_init 49 = .ok (.aload_n 0, 1) := by decide +kernel
theorem dX1_init_50 : decode cX1_init 50 = .ok (.sipush 400, 3) := by decide +kernel
theorem dX1_init_53 : decode cX1_init 53 = .ok (.newarray .int, 2) := by decide +kernel
theorem dX1_init_55 : decode cX1_init 55 = .ok (.putfield 27, 3) := by decide +kernel
theorem dX1_init_58 : decode cX1_init 58 = .ok (.aload_n 0, 1) := by decide +kernel
theorem dX1_init_59 : decode cX1_init 59 = .ok (.new 30, 3) := by decide +kernel
theorem dX1_init_62 : decode cX1_init 62 = .ok (.dup, 1) := by decide +kernel
theorem dX1_init_63 : decode cX1_init 63 = .ok (.invokespecial 32, 3) := by decide +kernel
theorem dX1_init_66 : decode cX1_init 66 = .ok (.putfield 33, 3) := by decide +kernel
theorem dX1_init_69 : decode cX1_init 69 = .ok (.aload_n 0, 1) := by decide +kernel
theorem dX1_init_70 : decode cX1_init 70 = .ok (.iconst 0, 1) := by decide +kernel
theorem dX1_init_71 : decode cX1_init 71 = .ok (.putfield 37, 3) := by decide +kernel
theorem dX1_init_74 : decode cX1_init 74 = .ok (.aload_n 0, 1) := by decide +kernel
theorem dX1_init_75 : decode cX1_init 75 = .ok (.bipush (-2), 2) := by decide +kernel
theorem dX1_init_77 : decode cX1_init 77 = .ok (.putfield 41, 3) := by decide +kernel
theorem dX1_init_80 : decode cX1_init 80 = .ok (.return_, 1) := by decide +kernel
theorem dX1_has_0 : decode cX1_has 0 = .ok (.iload_n 1, 1) := by decide +kernel
theorem dX1_has_1 : decode cX1_has 1 = .ok (.ifCond .lt 15, 3) := by decide +kernel
theorem dX1_has_4 : decode cX1_has 4 = .ok (.iload_n 1, 1) := by decide +kernel
theorem dX1_has_5 : decode cX1_has 5 = .ok (.aload_n 0, 1) := by decide +kernel
theorem dX1_has_6 : decode cX1_has 6 = .ok (.getfield 37, 3) := by decide +kernel
theorem dX1_has_9 : decode cX1_has 9 = .ok (.if_icmp .ge 7, 3) := by decide +kernel
theorem dX1_has_12 : decode cX1_has 12 = .ok (.iconst 1, 1) := by decide +kernel
theorem dX1_has_13 : decode cX1_has 13 = .ok (.goto 4, 3) := by decide +kernel
theorem dX1_has_16 : decode cX1_has 16 = .ok (.iconst 0, 1) := by decide +kernel
theorem dX1_has_17 : decode cX1_has 17 = .ok (.ireturn, 1) := by decide +kernel
theorem dX1_add_0 : decode cX1_add 0 = .ok (.aload_n 0, 1) := by decide +kernel
theorem dX1_add_1 : decode cX1_add 1 = .ok (.getfield 37, 3) := by decide +kernel
theorem dX1_add_4 : decode cX1_add 4 = .ok (.sipush 400, 3) := by decide +kernel
theorem dX1_add_7 : decode cX1_add 7 = .ok (.if_icmp .lt 4, 3) := by decide +kernel
theorem dX1_add_10 : decode cX1_add 10 = .ok (.return_, 1) := by decide +kernel
theorem dX1_add_11 : decode cX1_add 11 = .ok (.aload_n 0, 1) := by decide +kernel
theorem dX1_add_12 : decode cX1_add 12 = .ok (.getfield 9, 3) := by decide +kernel
theorem dX1_add_15 : decode cX1_add 15 = .ok (.aload_n 0, 1) := by decide +kernel
theorem dX1_add_16 : decode cX1_add 16 = .ok (.getfield 37, 3) := by decide +kernel
theorem dX1_add_19 : decode cX1_add 19 = .ok (.iload 4, 2) := by decide +kernel
theorem dX1_add_21 : decode cX1_add 21 = .ok (.iastore, 1) := by decide +kernel
theorem dX1_add_22 : decode cX1_add 22 = .ok (.aload_n 0, 1) := by decide +kernel
theorem dX1_add_23 : decode cX1_add 23 = .ok (.getfield 15, 3) := by decide +kernel
theorem dX1_add_26 : decode cX1_add 26 = .ok (.aload_n 0, 1) := by decide +kernel
theorem dX1_add_27 : decode cX1_add 27 = .ok (.getfield 37, 3) := by decide +kernel
theorem dX1_add_30 : decode cX1_add 30 = .ok (.iload 4, 2) := by decide +kernel
theorem dX1_add_32 : decode cX1_add 32 = .ok (.iastore, 1) := by decide +kernel
theorem dX1_add_33 : decode cX1_add 33 = .ok (.aload_n 0, 1) := by decide +kernel
theorem dX1_add_34 : decode cX1_add 34 = .ok (.getfield 18, 3) := by decide +kernel
theorem dX1_add_37 : decode cX1_add 37 = .ok (.aload_n 0, 1) := by decide +kernel
theorem dX1_add_38 : decode cX1_add 38 = .ok (.getfield 37, 3) := by decide +kernel
theorem dX1_add_41 : decode cX1_add 41 = .ok (.iload_n 1, 1) := by decide +kernel
theorem dX1_add_42 : decode cX1_add 42 = .ok (.iastore, 1) := by decide +kernel
theorem dX1_add_43 : decode cX1_add 43 = .ok (.aload_n 0, 1) := by decide +kernel
theorem dX1_add_44 : decode cX1_add 44 = .ok (.getfield 21, 3) := by decide +kernel
theorem dX1_add_47 : decode cX1_add 47 = .ok (.aload_n 0, 1) := by decide +kernel
theorem dX1_add_48 : decode cX1_add 48 = .ok (.getfield 37, 3) := by decide +kernel
theorem dX1_add_51 : decode cX1_add 51 = .ok (.iload_n 2, 1) := by decide +kernel
theorem dX1_add_52 : decode cX1_add 52 = .ok (.iastore, 1) := by decide +kernel
theorem dX1_add_53 : decode cX1_add 53 = .ok (.aload_n 0, 1) := by decide +kernel
theorem dX1_add_54 : decode cX1_add 54 = .ok (.getfield 24, 3) := by decide +kernel
theorem dX1_add_57 : decode cX1_add 57 = .ok (.aload_n 0, 1) := by decide +kernel
theorem dX1_add_58 : decode cX1_add 58 = .ok (.getfield 37, 3) := by decide +kernel
theorem dX1_add_61 : decode cX1_add 61 = .ok (.aload_n 3, 1) := by decide +kernel
theorem dX1_add_62 : decode cX1_add 62 = .ok (.ifnonnull 8, 3) := by decide +kernel
theorem dX1_add_65 : decode cX1_add 65 = .ok (.bipush (-2), 2) := by decide +kernel
theorem dX1_add_67 : decode cX1_add 67 = .ok (.goto 8, 3) := by decide +kernel
theorem dX1_add_70 : decode cX1_add 70 = .ok (.iload_n 1, 1) := by decide +kernel
theorem dX1_add_71 : decode cX1_add 71 = .ok (.aload_n 3, 1) := by decide +kernel
theorem dX1_add_72 : decode cX1_add 72 = .ok (.invokestatic 44, 3) := by decide +kernel
theorem dX1_add_75 : decode cX1_add 75 = .ok (.iastore, 1) := by decide +kernel
theorem dX1_add_76 : decode cX1_add 76 = .ok (.aload_n 0, 1) := by decide +kernel
theorem dX1_add_77 : decode cX1_add 77 = .ok (.getfield 27, 3) := by decide +kernel
theorem dX1_add_80 : decode cX1_add 80 = .ok (.aload_n 0, 1) := by decide +kernel
theorem dX1_add_81 : decode cX1_add 81 = .ok (.getfield 37, 3) := by decide +kernel
theorem dX1_add_84 : decode cX1_add 84 = .ok (.aload_n 3, 1) := by decide +kernel
theorem dX1_add_85 : decode cX1_add 85 = .ok (.ifnonnull 8, 3) := by decide +kernel
theorem dX1_add_88 : decode cX1_add 88 = .ok (.bipush (-2), 2) := by decide +kernel
theorem dX1_add_90 : decode cX1_add 90 = .ok (.goto 7, 3) := by decide +kernel
theorem dX1_add_93 : decode cX1_add 93 = .ok (.aload_n 3, 1) := by decide +kernel
theorem dX1_add_94 : decode cX1_add 94 = .ok (.getfield 48, 3) := by decide +kernel
theorem dX1_add_97 : decode cX1_add 97 = .ok (.iastore, 1) := by decide +kernel
theorem dX1_add_98 : decode cX1_add 98 = .ok (.aload_n 0, 1) := by decide +kernel
theorem dX1_add_99 : decode cX1_add 99 = .ok (.dup, 1) := by decide +kernel
theorem dX1_add_100 : decode cX1_add 100 = .ok (.getfield 37, 3) := by decide +kernel
theorem dX1_add_103 : decode cX1_add 103 = .ok (.iconst 1, 1) := by decide +kernel
theorem dX1_add_104 : decode cX1_add 104 = .ok (.iadd, 1) := by decide +kernel
theorem dX1_add_105 : decode cX1_add 105 = .ok (.putfield 37, 3) := by decide +kernel
theorem dX1_add_108 : decode cX1_add 108 = .ok (.return_, 1) := by decide +kernel
theorem dX1_whereOf_0 : decode cX1_whereOf 0 = .ok (.iload_n 0, 1) := by decide +kernel
theorem dX1_whereOf_1 : decode cX1_whereOf 1 = .ok (.tableswitch 44 0 3 #[31, 44, 36, 36], 31) := by decide +kernel
theorem dX1_whereOf_32 : decode cX1_whereOf 32 = .ok (.aload_n 1, 1) := by decide +kernel
theorem dX1_whereOf_33 : decode cX1_whereOf 33 = .ok (.getfield 53, 3) := by decide +kernel
theorem dX1_whereOf_36 : decode cX1_whereOf 36 = .ok (.ireturn, 1) := by decide +kernel
theorem dX1_whereOf_37 : decode cX1_whereOf 37 = .ok (.aload_n 1, 1) := by decide +kernel
theorem dX1_whereOf_38 : decode cX1_whereOf 38 = .ok (.getfield 56, 3) := by decide +kernel
theorem dX1_whereOf_41 : decode cX1_whereOf 41 = .ok (.bipush 16, 2) := by decide +kernel
theorem dX1_whereOf_43 : decode cX1_whereOf 43 = .ok (.irem, 1) := by decide +kernel
theorem dX1_whereOf_44 : decode cX1_whereOf 44 = .ok (.ireturn, 1) := by decide +kernel
theorem dX1_whereOf_45 : decode cX1_whereOf 45 = .ok (.bipush (-2), 2) := by decide +kernel
theorem dX1_whereOf_47 : decode cX1_whereOf 47 = .ok (.ireturn, 1) := by decide +kernel
theorem dX1_findFault_0 : decode cX1_findFault 0 = .ok (.aload_n 0, 1) := by decide +kernel
theorem dX1_findFault_1 : decode cX1_findFault 1 = .ok (.getfield 33, 3) := by decide +kernel
theorem dX1_findFault_4 : decode cX1_findFault 4 = .ok (.invokevirtual 59, 3) := by decide +kernel
theorem dX1_findFault_7 : decode cX1_findFault 7 = .ok (.iconst 0, 1) := by decide +kernel
theorem dX1_findFault_8 : decode cX1_findFault 8 = .ok (.istore_n 2, 1) := by decide +kernel
theorem dX1_findFault_9 : decode cX1_findFault 9 = .ok (.iload_n 2, 1) := by decide +kernel
theorem dX1_findFault_10 : decode cX1_findFault 10 = .ok (.aload_n 0, 1) := by decide +kernel
theorem dX1_findFault_11 : decode cX1_findFault 11 = .ok (.getfield 37, 3) := by decide +kernel
theorem dX1_findFault_14 : decode cX1_findFault 14 = .ok (.if_icmp .ge 104, 3) := by decide +kernel
theorem dX1_findFault_17 : decode cX1_findFault 17 = .ok (.aload_n 0, 1) := by decide +kernel
theorem dX1_findFault_18 : decode cX1_findFault 18 = .ok (.getfield 33, 3) := by decide +kernel
theorem dX1_findFault_21 : decode cX1_findFault 21 = .ok (.aload_n 1, 1) := by decide +kernel
theorem dX1_findFault_22 : decode cX1_findFault 22 = .ok (.aload_n 0, 1) := by decide +kernel
theorem dX1_findFault_23 : decode cX1_findFault 23 = .ok (.getfield 18, 3) := by decide +kernel
theorem dX1_findFault_26 : decode cX1_findFault 26 = .ok (.iload_n 2, 1) := by decide +kernel
theorem dX1_findFault_27 : decode cX1_findFault 27 = .ok (.iaload, 1) := by decide +kernel
theorem dX1_findFault_28 : decode cX1_findFault 28 = .ok (.aload_n 0, 1) := by decide +kernel
theorem dX1_findFault_29 : decode cX1_findFault 29 = .ok (.getfield 21, 3) := by decide +kernel
theorem dX1_findFault_32 : decode cX1_findFault 32 = .ok (.iload_n 2, 1) := by decide +kernel
theorem dX1_findFault_33 : decode cX1_findFault 33 = .ok (.iaload, 1) := by decide +kernel
theorem dX1_findFault_34 : decode cX1_findFault 34 = .ok (.aload_n 0, 1) := by decide +kernel
theorem dX1_findFault_35 : decode cX1_findFault 35 = .ok (.getfield 15, 3) := by decide +kernel
theorem dX1_findFault_38 : decode cX1_findFault 38 = .ok (.iload_n 2, 1) := by decide +kernel
theorem dX1_findFault_39 : decode cX1_findFault 39 = .ok (.iaload, 1) := by decide +kernel
theorem dX1_findFault_40 : decode cX1_findFault 40 = .ok (.invokevirtual 62, 3) := by decide +kernel
theorem dX1_findFault_43 : decode cX1_findFault 43 = .ok (.istore_n 3, 1) := by decide +kernel
theorem dX1_findFault_44 : decode cX1_findFault 44 = .ok (.iload_n 3, 1) := by decide +kernel
theorem dX1_findFault_45 : decode cX1_findFault 45 = .ok (.bipush (-2), 2) := by decide +kernel
theorem dX1_findFault_47 : decode cX1_findFault 47 = .ok (.if_icmp .ne 27, 3) := by decide +kernel
theorem dX1_findFault_50 : decode cX1_findFault 50 = .ok (.iload_n 2, 1) := by decide +kernel
theorem dX1_findFault_51 : decode cX1_findFault 51 = .ok (.ifCond .le 23, 3) := by decide +kernel
theorem dX1_findFault_54 : decode cX1_findFault 54 = .ok (.aload_n 0, 1) := by decide +kernel
theorem dX1_findFault_55 : decode cX1_findFault 55 = .ok (.getfield 15, 3) := by decide +kernel
theorem dX1_findFault_58 : decode cX1_findFault 58 = .ok (.iload_n 2, 1) := by decide +kernel
theorem dX1_findFault_59 : decode cX1_findFault 59 = .ok (.iaload, 1) := by decide +kernel
theorem dX1_findFault_60 : decode cX1_findFault 60 = .ok (.aload_n 0, 1) := by decide +kernel
theorem dX1_findFault_61 : decode cX1_findFault 61 = .ok (.getfield 15, 3) := by decide +kernel
theorem dX1_findFault_64 : decode cX1_findFault 64 = .ok (.iload_n 2, 1) := by decide +kernel
theorem dX1_findFault_65 : decode cX1_findFault 65 = .ok (.iconst 1, 1) := by decide +kernel
theorem dX1_findFault_66 : decode cX1_findFault 66 = .ok (.isub, 1) := by decide +kernel
theorem dX1_findFault_67 : decode cX1_findFault 67 = .ok (.iaload, 1) := by decide +kernel
theorem dX1_findFault_68 : decode cX1_findFault 68 = .ok (.if_icmp .gt 6, 3) := by decide +kernel
theorem dX1_findFault_71 : decode cX1_findFault 71 = .ok (.bipush 13, 2) := by decide +kernel
theorem dX1_findFault_73 : decode cX1_findFault 73 = .ok (.istore_n 3, 1) := by decide +kernel
theorem dX1_findFault_74 : decode cX1_findFault 74 = .ok (.iload_n 3, 1) := by decide +kernel
theorem dX1_findFault_75 : decode cX1_findFault 75 = .ok (.bipush (-2), 2) := by decide +kernel
theorem dX1_findFault_77 : decode cX1_findFault 77 = .ok (.if_icmp .eq 10, 3) := by decide +kernel
theorem dX1_findFault_80 : decode cX1_findFault 80 = .ok (.aload_n 0, 1) := by decide +kernel
theorem dX1_findFault_81 : decode cX1_findFault 81 = .ok (.iload_n 3, 1) := by decide +kernel
theorem dX1_findFault_82 : decode cX1_findFault 82 = .ok (.putfield 41, 3) := by decide +kernel
theorem dX1_findFault_85 : decode cX1_findFault 85 = .ok (.iload_n 2, 1) := by decide +kernel
theorem dX1_findFault_86 : decode cX1_findFault 86 = .ok (.ireturn, 1) := by decide +kernel
theorem dX1_findFault_87 : decode cX1_findFault 87 = .ok (.aload_n 0, 1) := by decide +kernel
theorem dX1_findFault_88 : decode cX1_findFault 88 = .ok (.getfield 33, 3) := by decide +kernel
theorem dX1_findFault_91 : decode cX1_findFault 91 = .ok (.aload_n 0, 1) := by decide +kernel
theorem dX1_findFault_92 : decode cX1_findFault 92 = .ok (.getfield 18, 3) := by decide +kernel
theorem dX1_findFault_95 : decode cX1_findFault 95 = .ok (.iload_n 2, 1) := by decide +kernel
theorem dX1_findFault_96 : decode cX1_findFault 96 = .ok (.iaload, 1) := by decide +kernel
theorem dX1_findFault_97 : decode cX1_findFault 97 = .ok (.aload_n 0, 1) := by decide +kernel
theorem dX1_findFault_98 : decode cX1_findFault 98 = .ok (.getfield 21, 3) := by decide +kernel
theorem dX1_findFault_101 : decode cX1_findFault 101 = .ok (.iload_n 2, 1) := by decide +kernel
theorem dX1_findFault_102 : decode cX1_findFault 102 = .ok (.iaload, 1) := by decide +kernel
theorem dX1_findFault_103 : decode cX1_findFault 103 = .ok (.aload_n 0, 1) := by decide +kernel
theorem dX1_findFault_104 : decode cX1_findFault 104 = .ok (.getfield 15, 3) := by decide +kernel
theorem dX1_findFault_107 : decode cX1_findFault 107 = .ok (.iload_n 2, 1) := by decide +kernel
theorem dX1_findFault_108 : decode cX1_findFault 108 = .ok (.iaload, 1) := by decide +kernel
theorem dX1_findFault_109 : decode cX1_findFault 109 = .ok (.invokevirtual 66, 3) := by decide +kernel
theorem dX1_findFault_112 : decode cX1_findFault 112 = .ok (.iinc 2 1, 3) := by decide +kernel
theorem dX1_findFault_115 : decode cX1_findFault 115 = .ok (.goto (-106), 3) := by decide +kernel
theorem dX1_findFault_118 : decode cX1_findFault 118 = .ok (.aload_n 0, 1) := by decide +kernel
theorem dX1_findFault_119 : decode cX1_findFault 119 = .ok (.bipush (-2), 2) := by decide +kernel
theorem dX1_findFault_121 : decode cX1_findFault 121 = .ok (.putfield 41, 3) := by decide +kernel
theorem dX1_findFault_124 : decode cX1_findFault 124 = .ok (.bipush (-2), 2) := by decide +kernel
theorem dX1_findFault_126 : decode cX1_findFault 126 = .ok (.ireturn, 1) := by decide +kernel
theorem dX2_init_0 : decode cX2_init 0 = .ok (.aload_n 0, 1) := by decide +kernel
theorem dX2_init_1 : decode cX2_init 1 = .ok (.iload_n 1, 1) := by decide +kernel
theorem dX2_init_2 : decode cX2_init 2 = .ok (.iload_n 2, 1) := by decide +kernel
theorem dX2_init_3 : decode cX2_init 3 = .ok (.bipush (-2), 2) := by decide +kernel
theorem dX2_init_5 : decode cX2_init 5 = .ok (.iload_n 3, 1) := by decide +kernel
theorem dX2_init_6 : decode cX2_init 6 = .ok (.invokespecial 3, 3) := by decide +kernel
theorem dX2_init_9 : decode cX2_init 9 = .ok (.return_, 1) := by decide +kernel
theorem dX2_kind_0 : decode cX2_kind 0 = .ok (.iconst 4, 1) := by decide +kernel
theorem dX2_kind_1 : decode cX2_kind 1 = .ok (.ireturn, 1) := by decide +kernel
theorem dX2_heft_0 : decode cX2_heft 0 = .ok (.aload_n 0, 1) := by decide +kernel
theorem dX2_heft_1 : decode cX2_heft 1 = .ok (.invokespecial 9, 3) := by decide +kernel
theorem dX2_heft_4 : decode cX2_heft 4 = .ok (.sipush 300, 3) := by decide +kernel
theorem dX2_heft_7 : decode cX2_heft 7 = .ok (.iadd, 1) := by decide +kernel
theorem dX2_heft_8 : decode cX2_heft 8 = .ok (.ireturn, 1) := by decide +kernel
theorem dX3_init_0 : decode cX3_init 0 = .ok (.aload_n 0, 1) := by decide +kernel
theorem dX3_init_1 : decode cX3_init 1 = .ok (.iload_n 1, 1) := by decide +kernel
theorem dX3_init_2 : decode cX3_init 2 = .ok (.iload_n 2, 1) := by decide +kernel
theorem dX3_init_3 : decode cX3_init 3 = .ok (.iload_n 3, 1) := by decide +kernel
theorem dX3_init_4 : decode cX3_init 4 = .ok (.iload 4, 2) := by decide +kernel
theorem dX3_init_6 : decode cX3_init 6 = .ok (.iload 5, 2) := by decide +kernel
theorem dX3_init_8 : decode cX3_init 8 = .ok (.invokespecial 3, 3) := by decide +kernel
theorem dX3_init_11 : decode cX3_init 11 = .ok (.aload_n 0, 1) := by decide +kernel
theorem dX3_init_12 : decode cX3_init 12 = .ok (.iload 6, 2) := by decide +kernel
theorem dX3_init_14 : decode cX3_init 14 = .ok (.putfield 9, 3) := by decide +kernel
theorem dX3_init_17 : decode cX3_init 17 = .ok (.return_, 1) := by decide +kernel
theorem dX3_kind_0 : decode cX3_kind 0 = .ok (.iconst 2, 1) := by decide +kernel
theorem dX3_kind_1 : decode cX3_kind 1 = .ok (.ireturn, 1) := by decide +kernel
theorem dX3_heft_0 : decode cX3_heft 0 = .ok (.aload_n 0, 1) := by decide +kernel
theorem dX3_heft_1 : decode cX3_heft 1 = .ok (.invokespecial 15, 3) := by decide +kernel
theorem dX3_heft_4 : decode cX3_heft 4 = .ok (.iconst 2, 1) := by decide +kernel
theorem dX3_heft_5 : decode cX3_heft 5 = .ok (.imul, 1) := by decide +kernel
theorem dX3_heft_6 : decode cX3_heft 6 = .ok (.ireturn, 1) := by decide +kernel
theorem dX3_octetAfter_0 : decode cX3_octetAfter 0 = .ok (.iload_n 1, 1) := by decide +kernel
theorem dX3_octetAfter_1 : decode cX3_octetAfter 1 = .ok (.aload_n 0, 1) := by decide +kernel
theorem dX3_octetAfter_2 : decode cX3_octetAfter 2 = .ok (.getfield 9, 3) := by decide +kernel
theorem dX3_octetAfter_5 : decode cX3_octetAfter 5 = .ok (.iconst (-1), 1) := by decide +kernel
theorem dX3_octetAfter_6 : decode cX3_octetAfter 6 = .ok (.ixor, 1) := by decide +kernel
theorem dX3_octetAfter_7 : decode cX3_octetAfter 7 = .ok (.iand, 1) := by decide +kernel
theorem dX3_octetAfter_8 : decode cX3_octetAfter 8 = .ok (.aload_n 0, 1) := by decide +kernel
theorem dX3_octetAfter_9 : decode cX3_octetAfter 9 = .ok (.getfield 19, 3) := by decide +kernel
theorem dX3_octetAfter_12 : decode cX3_octetAfter 12 = .ok (.aload_n 0, 1) := by decide +kernel
theorem dX3_octetAfter_13 : decode cX3_octetAfter 13 = .ok (.getfield 9, 3) := by decide +kernel
theorem dX3_octetAfter_16 : decode cX3_octetAfter 16 = .ok (.iand, 1) := by decide +kernel
theorem dX3_octetAfter_17 : decode cX3_octetAfter 17 = .ok (.ior, 1) := by decide +kernel
theorem dX3_octetAfter_18 : decode cX3_octetAfter 18 = .ok (.ireturn, 1) := by decide +kernel
theorem dX4_init_0 : decode cX4_init 0 = .ok (.aload_n 0, 1) := by decide +kernel
theorem dX4_init_1 : decode cX4_init 1 = .ok (.invokespecial 3, 3) := by decide +kernel
theorem dX4_init_4 : decode cX4_init 4 = .ok (.aload_n 0, 1) := by decide +kernel
theorem dX4_init_5 : decode cX4_init 5 = .ok (.sipush 1024, 3) := by decide +kernel
theorem dX4_init_8 : decode cX4_init 8 = .ok (.newarray .int, 2) := by decide +kernel
theorem dX4_init_10 : decode cX4_init 10 = .ok (.putfield 9, 3) := by decide +kernel
theorem dX4_init_13 : decode cX4_init 13 = .ok (.aload_n 0, 1) := by decide +kernel
theorem dX4_init_14 : decode cX4_init 14 = .ok (.iconst 4, 1) := by decide +kernel
theorem dX4_init_15 : decode cX4_init 15 = .ok (.newarray .int, 2) := by decide +kernel
theorem dX4_init_17 : decode cX4_init 17 = .ok (.dup, 1) := by decide +kernel
theorem dX4_init_18 : decode cX4_init 18 = .ok (.iconst 0, 1) := by decide +kernel
theorem dX4_init_19 : decode cX4_init 19 = .ok (.bipush (-2), 2) := by decide +kernel
theorem dX4_init_21 : decode cX4_init 21 = .ok (.iastore, 1) := by decide +kernel
theorem dX4_init_22 : decode cX4_init 22 = .ok (.dup, 1) := by decide +kernel
theorem dX4_init_23 : decode cX4_init 23 = .ok (.iconst 1, 1) := by decide +kernel
theorem dX4_init_24 : decode cX4_init 24 = .ok (.bipush (-2), 2) := by decide +kernel
theorem dX4_init_26 : decode cX4_init 26 = .ok (.iastore, 1) := by decide +kernel
theorem dX4_init_27 : decode cX4_init 27 = .ok (.dup, 1) := by decide +kernel
theorem dX4_init_28 : decode cX4_init 28 = .ok (.iconst 2, 1) := by decide +kernel
theorem dX4_init_29 : decode cX4_init 29 = .ok (.bipush (-2), 2) := by decide +kernel
theorem dX4_init_31 : decode cX4_init 31 = .ok (.iastore, 1) := by decide +kernel
theorem dX4_init_32 : decode cX4_init 32 = .ok (.dup, 1) := by decide +kernel
theorem dX4_init_33 : decode cX4_init 33 = .ok (.iconst 3, 1) := by decide +kernel
theorem dX4_init_34 : decode cX4_init 34 = .ok (.bipush (-2), 2) := by decide +kernel
theorem dX4_init_36 : decode cX4_init 36 = .ok (.iastore, 1) := by decide +kernel
theorem dX4_init_37 : decode cX4_init 37 = .ok (.putfield 15, 3) := by decide +kernel
theorem dX4_init_40 : decode cX4_init 40 = .ok (.return_, 1) := by decide +kernel
theorem dX4_rowOf_0 : decode cX4_rowOf 0 = .ok (.iload_n 0, 1) := by decide +kernel
theorem dX4_rowOf_1 : decode cX4_rowOf 1 = .ok (.bipush 64, 2) := by decide +kernel
theorem dX4_rowOf_3 : decode cX4_rowOf 3 = .ok (.idiv, 1) := by decide +kernel
theorem dX4_rowOf_4 : decode cX4_rowOf 4 = .ok (.ireturn, 1) := by decide +kernel
theorem dX4_bankOf_0 : decode cX4_bankOf 0 = .ok (.iload_n 0, 1) := by decide +kernel
theorem dX4_bankOf_1 : decode cX4_bankOf 1 = .ok (.bipush 16, 2) := by decide +kernel
theorem dX4_bankOf_3 : decode cX4_bankOf 3 = .ok (.idiv, 1) := by decide +kernel
theorem dX4_bankOf_4 : decode cX4_bankOf 4 = .ok (.iload_n 0, 1) := by decide +kernel
theorem dX4_bankOf_5 : decode cX4_bankOf 5 = .ok (.invokestatic 18, 3) := by decide +kernel
theorem dX4_bankOf_8 : decode cX4_bankOf 8 = .ok (.ixor, 1) := by decide +kernel
theorem dX4_bankOf_9 : decode cX4_bankOf 9 = .ok (.iconst 4, 1) := by decide +kernel
theorem dX4_bankOf_10 : decode cX4_bankOf 10 = .ok (.irem, 1) := by decide +kernel
theorem dX4_bankOf_11 : decode cX4_bankOf 11 = .ok (.ireturn, 1) := by decide +kernel
theorem dX4_allows_0 : decode cX4_allows 0 = .ok (.iload_n 1, 1) := by decide +kernel
theorem dX4_allows_1 : decode cX4_allows 1 = .ok (.iconst 4, 1) := by decide +kernel
theorem dX4_allows_2 : decode cX4_allows 2 = .ok (.if_icmp .ne 8, 3) := by decide +kernel
theorem dX4_allows_5 : decode cX4_allows 5 = .ok (.aload_n 0, 1) := by decide +kernel
theorem dX4_allows_6 : decode cX4_allows 6 = .ok (.invokevirtual 22, 3) := by decide +kernel
theorem dX4_allows_9 : decode cX4_allows 9 = .ok (.ireturn, 1) := by decide +kernel
theorem dX4_allows_10 : decode cX4_allows 10 = .ok (.aload_n 0, 1) := by decide +kernel
theorem dX4_allows_11 : decode cX4_allows 11 = .ok (.getfield 15, 3) := by decide +kernel
theorem dX4_allows_14 : decode cX4_allows 14 = .ok (.iload_n 2, 1) := by decide +kernel
theorem dX4_allows_15 : decode cX4_allows 15 = .ok (.iaload, 1) := by decide +kernel
theorem dX4_allows_16 : decode cX4_allows 16 = .ok (.bipush (-2), 2) := by decide +kernel
theorem dX4_allows_18 : decode cX4_allows 18 = .ok (.if_icmp .ne 7, 3) := by decide +kernel
theorem dX4_allows_21 : decode cX4_allows 21 = .ok (.iconst 1, 1) := by decide +kernel
theorem dX4_allows_22 : decode cX4_allows 22 = .ok (.goto 4, 3) := by decide +kernel
theorem dX4_allows_25 : decode cX4_allows 25 = .ok (.iconst 0, 1) := by decide +kernel
theorem dX4_allows_26 : decode cX4_allows 26 = .ok (.istore_n 3, 1) := by decide +kernel
theorem dX4_allows_27 : decode cX4_allows 27 = .ok (.iload_n 1, 1) := by decide +kernel
theorem dX4_allows_28 : decode cX4_allows 28 = .ok (.ifCond .ne 7, 3) := by decide +kernel
theorem dX4_allows_31 : decode cX4_allows 31 = .ok (.iload_n 3, 1) := by decide +kernel
theorem dX4_allows_32 : decode cX4_allows 32 = .ok (.goto 12, 3) := by decide +kernel
theorem dX4_allows_35 : decode cX4_allows 35 = .ok (.iload_n 3, 1) := by decide +kernel
theorem dX4_allows_36 : decode cX4_allows 36 = .ok (.ifCond .ne 7, 3) := by decide +kernel
theorem dX4_allows_39 : decode cX4_allows 39 = .ok (.iconst 1, 1) := by decide +kernel
theorem dX4_allows_40 : decode cX4_allows 40 = .ok (.goto 4, 3) := by decide +kernel
theorem dX4_allows_43 : decode cX4_allows 43 = .ok (.iconst 0, 1) := by decide +kernel
theorem dX4_allows_44 : decode cX4_allows 44 = .ok (.ireturn, 1) := by decide +kernel
theorem dX4_areAllShut_0 : decode cX4_areAllShut 0 = .ok (.iconst 0, 1) := by decide +kernel
theorem dX4_areAllShut_1 : decode cX4_areAllShut 1 = .ok (.istore_n 1, 1) := by decide +kernel
theorem dX4_areAllShut_2 : decode cX4_areAllShut 2 = .ok (.iload_n 1, 1) := by decide +kernel
theorem dX4_areAllShut_3 : decode cX4_areAllShut 3 = .ok (.iconst 4, 1) := by decide +kernel
theorem dX4_areAllShut_4 : decode cX4_areAllShut 4 = .ok (.if_icmp .ge 22, 3) := by decide +kernel
theorem dX4_areAllShut_7 : decode cX4_areAllShut 7 = .ok (.aload_n 0, 1) := by decide +kernel
theorem dX4_areAllShut_8 : decode cX4_areAllShut 8 = .ok (.getfield 15, 3) := by decide +kernel
theorem dX4_areAllShut_11 : decode cX4_areAllShut 11 = .ok (.iload_n 1, 1) := by decide +kernel
theorem dX4_areAllShut_12 : decode cX4_areAllShut 12 = .ok (.iaload, 1) := by decide +kernel
theorem dX4_areAllShut_13 : decode cX4_areAllShut 13 = .ok (.bipush (-2), 2) := by decide +kernel
theorem dX4_areAllShut_15 : decode cX4_areAllShut 15 = .ok (.if_icmp .eq 5, 3) := by decide +kernel
theorem dX4_areAllShut_18 : decode cX4_areAllShut 18 = .ok (.iconst 0, 1) := by decide +kernel
theorem dX4_areAllShut_19 : decode cX4_areAllShut 19 = .ok (.ireturn, 1) := by decide +kernel
theorem dX4_areAllShut_20 : decode cX4_areAllShut 20 = .ok (.iinc 1 1, 3) := by decide +kernel
theorem dX4_areAllShut_23 : decode cX4_areAllShut 23 = .ok (.goto (-21), 3) := by decide +kernel
theorem dX4_areAllShut_26 : decode cX4_areAllShut 26 = .ok (.iconst 1, 1) := by decide +kernel
theorem dX4_areAllShut_27 : decode cX4_areAllShut 27 = .ok (.ireturn, 1) := by decide +kernel
theorem dX4_stepToward_0 : decode cX4_stepToward 0 = .ok (.aload_n 0, 1) := by decide +kernel
theorem dX4_stepToward_1 : decode cX4_stepToward 1 = .ok (.getfield 15, 3) := by decide +kernel
theorem dX4_stepToward_4 : decode cX4_stepToward 4 = .ok (.aload_n 1, 1) := by decide +kernel
theorem dX4_stepToward_5 : decode cX4_stepToward 5 = .ok (.getfield 26, 3) := by decide +kernel
theorem dX4_stepToward_8 : decode cX4_stepToward 8 = .ok (.iaload, 1) := by decide +kernel
theorem dX4_stepToward_9 : decode cX4_stepToward 9 = .ok (.istore_n 2, 1) := by decide +kernel
theorem dX4_stepToward_10 : decode cX4_stepToward 10 = .ok (.iload_n 2, 1) := by decide +kernel
theorem dX4_stepToward_11 : decode cX4_stepToward 11 = .ok (.bipush (-2), 2) := by decide +kernel
theorem dX4_stepToward_13 : decode cX4_stepToward 13 = .ok (.if_icmp .ne 5, 3) := by decide +kernel
theorem dX4_stepToward_16 : decode cX4_stepToward 16 = .ok (.iconst 0, 1) := by decide +kernel
theorem dX4_stepToward_17 : decode cX4_stepToward 17 = .ok (.ireturn, 1) := by decide +kernel
theorem dX4_stepToward_18 : decode cX4_stepToward 18 = .ok (.iload_n 2, 1) := by decide +kernel
theorem dX4_stepToward_19 : decode cX4_stepToward 19 = .ok (.aload_n 1, 1) := by decide +kernel
theorem dX4_stepToward_20 : decode cX4_stepToward 20 = .ok (.getfield 32, 3) := by decide +kernel
theorem dX4_stepToward_23 : decode cX4_stepToward 23 = .ok (.if_icmp .ne 10, 3) := by decide +kernel
theorem dX4_stepToward_26 : decode cX4_stepToward 26 = .ok (.aload_n 1, 1) := by decide +kernel
theorem dX4_stepToward_27 : decode cX4_stepToward 27 = .ok (.invokevirtual 35, 3) := by decide +kernel
theorem dX4_stepToward_30 : decode cX4_stepToward 30 = .ok (.goto 4, 3) := by decide +kernel
theorem dX4_stepToward_33 : decode cX4_stepToward 33 = .ok (.iconst 1, 1) := by decide +kernel
theorem dX4_stepToward_34 : decode cX4_stepToward 34 = .ok (.ireturn, 1) := by decide +kernel
theorem dX4_openRow_0 : decode cX4_openRow 0 = .ok (.aload_n 0, 1) := by decide +kernel
theorem dX4_openRow_1 : decode cX4_openRow 1 = .ok (.getfield 15, 3) := by decide +kernel
theorem dX4_openRow_4 : decode cX4_openRow 4 = .ok (.iload_n 1, 1) := by decide +kernel
theorem dX4_openRow_5 : decode cX4_openRow 5 = .ok (.iload_n 2, 1) := by decide +kernel
theorem dX4_openRow_6 : decode cX4_openRow 6 = .ok (.iastore, 1) := by decide +kernel
theorem dX4_openRow_7 : decode cX4_openRow 7 = .ok (.return_, 1) := by decide +kernel
theorem dX4_shutRow_0 : decode cX4_shutRow 0 = .ok (.aload_n 0, 1) := by decide +kernel
theorem dX4_shutRow_1 : decode cX4_shutRow 1 = .ok (.getfield 15, 3) := by decide +kernel
theorem dX4_shutRow_4 : decode cX4_shutRow 4 = .ok (.iload_n 1, 1) := by decide +kernel
theorem dX4_shutRow_5 : decode cX4_shutRow 5 = .ok (.bipush (-2), 2) := by decide +kernel
theorem dX4_shutRow_7 : decode cX4_shutRow 7 = .ok (.iastore, 1) := by decide +kernel
theorem dX4_shutRow_8 : decode cX4_shutRow 8 = .ok (.return_, 1) := by decide +kernel
theorem dX4_serve_0 : decode cX4_serve 0 = .ok (.aload_n 0, 1) := by decide +kernel
theorem dX4_serve_1 : decode cX4_serve 1 = .ok (.getfield 9, 3) := by decide +kernel
theorem dX4_serve_4 : decode cX4_serve 4 = .ok (.aload_n 1, 1) := by decide +kernel
theorem dX4_serve_5 : decode cX4_serve 5 = .ok (.getfield 39, 3) := by decide +kernel
theorem dX4_serve_8 : decode cX4_serve 8 = .ok (.iaload, 1) := by decide +kernel
theorem dX4_serve_9 : decode cX4_serve 9 = .ok (.istore_n 2, 1) := by decide +kernel
theorem dX4_serve_10 : decode cX4_serve 10 = .ok (.aload_n 1, 1) := by decide +kernel
theorem dX4_serve_11 : decode cX4_serve 11 = .ok (.aload_n 1, 1) := by decide +kernel
theorem dX4_serve_12 : decode cX4_serve 12 = .ok (.iload_n 2, 1) := by decide +kernel
theorem dX4_serve_13 : decode cX4_serve 13 = .ok (.invokevirtual 42, 3) := by decide +kernel
theorem dX4_serve_16 : decode cX4_serve 16 = .ok (.putfield 45, 3) := by decide +kernel
theorem dX4_serve_19 : decode cX4_serve 19 = .ok (.aload_n 0, 1) := by decide +kernel
theorem dX4_serve_20 : decode cX4_serve 20 = .ok (.getfield 9, 3) := by decide +kernel
theorem dX4_serve_23 : decode cX4_serve 23 = .ok (.aload_n 1, 1) := by decide +kernel
theorem dX4_serve_24 : decode cX4_serve 24 = .ok (.getfield 39, 3) := by decide +kernel
theorem dX4_serve_27 : decode cX4_serve 27 = .ok (.aload_n 1, 1) := by decide +kernel
theorem dX4_serve_28 : decode cX4_serve 28 = .ok (.iload_n 2, 1) := by decide +kernel
theorem dX4_serve_29 : decode cX4_serve 29 = .ok (.invokevirtual 48, 3) := by decide +kernel
theorem dX4_serve_32 : decode cX4_serve 32 = .ok (.iastore, 1) := by decide +kernel
theorem dX4_serve_33 : decode cX4_serve 33 = .ok (.return_, 1) := by decide +kernel
theorem dX4_signedRow_0 : decode cX4_signedRow 0 = .ok (.bipush 16, 2) := by decide +kernel
theorem dX4_signedRow_2 : decode cX4_signedRow 2 = .ok (.newarray .int, 2) := by decide +kernel
theorem dX4_signedRow_4 : decode cX4_signedRow 4 = .ok (.astore_n 3, 1) := by decide +kernel
theorem dX4_signedRow_5 : decode cX4_signedRow 5 = .ok (.iload_n 2, 1) := by decide +kernel
theorem dX4_signedRow_6 : decode cX4_signedRow 6 = .ok (.iconst 4, 1) := by decide +kernel
theorem dX4_signedRow_7 : decode cX4_signedRow 7 = .ok (.imul, 1) := by decide +kernel
theorem dX4_signedRow_8 : decode cX4_signedRow 8 = .ok (.iload_n 1, 1) := by decide +kernel
theorem dX4_signedRow_9 : decode cX4_signedRow 9 = .ok (.iload_n 2, 1) := by decide +kernel
theorem dX4_signedRow_10 : decode cX4_signedRow 10 = .ok (.iconst 4, 1) := by decide +kernel
theorem dX4_signedRow_11 : decode cX4_signedRow 11 = .ok (.irem, 1) := by decide +kernel
theorem dX4_signedRow_12 : decode cX4_signedRow 12 = .ok (.ixor, 1) := by decide +kernel
theorem dX4_signedRow_13 : decode cX4_signedRow 13 = .ok (.iadd, 1) := by decide +kernel
theorem dX4_signedRow_14 : decode cX4_signedRow 14 = .ok (.bipush 16, 2) := by decide +kernel
theorem dX4_signedRow_16 : decode cX4_signedRow 16 = .ok (.imul, 1) := by decide +kernel
theorem dX4_signedRow_17 : decode cX4_signedRow 17 = .ok (.istore 4, 2) := by decide +kernel
theorem dX4_signedRow_19 : decode cX4_signedRow 19 = .ok (.iconst 0, 1) := by decide +kernel
theorem dX4_signedRow_20 : decode cX4_signedRow 20 = .ok (.istore 5, 2) := by decide +kernel
theorem dX4_signedRow_22 : decode cX4_signedRow 22 = .ok (.iload 5, 2) := by decide +kernel
theorem dX4_signedRow_24 : decode cX4_signedRow 24 = .ok (.bipush 16, 2) := by decide +kernel
theorem dX4_signedRow_26 : decode cX4_signedRow 26 = .ok (.if_icmp .ge 27, 3) := by decide +kernel
theorem dX4_signedRow_29 : decode cX4_signedRow 29 = .ok (.aload_n 3, 1) := by decide +kernel
theorem dX4_signedRow_30 : decode cX4_signedRow 30 = .ok (.iload 5, 2) := by decide +kernel
theorem dX4_signedRow_32 : decode cX4_signedRow 32 = .ok (.aload_n 0, 1) := by decide +kernel
theorem dX4_signedRow_33 : decode cX4_signedRow 33 = .ok (.getfield 9, 3) := by decide +kernel
theorem dX4_signedRow_36 : decode cX4_signedRow 36 = .ok (.iload 4, 2) := by decide +kernel
theorem dX4_signedRow_38 : decode cX4_signedRow 38 = .ok (.iload 5, 2) := by decide +kernel
theorem dX4_signedRow_40 : decode cX4_signedRow 40 = .ok (.iadd, 1) := by decide +kernel
theorem dX4_signedRow_41 : decode cX4_signedRow 41 = .ok (.iaload, 1) := by decide +kernel
theorem dX4_signedRow_42 : decode cX4_signedRow 42 = .ok (.sipush 128, 3) := by decide +kernel
theorem dX4_signedRow_45 : decode cX4_signedRow 45 = .ok (.isub, 1) := by decide +kernel
theorem dX4_signedRow_46 : decode cX4_signedRow 46 = .ok (.iastore, 1) := by decide +kernel
theorem dX4_signedRow_47 : decode cX4_signedRow 47 = .ok (.iinc 5 1, 3) := by decide +kernel
theorem dX4_signedRow_50 : decode cX4_signedRow 50 = .ok (.goto (-28), 3) := by decide +kernel
theorem dX4_signedRow_53 : decode cX4_signedRow 53 = .ok (.aload_n 3, 1) := by decide +kernel
theorem dX4_signedRow_54 : decode cX4_signedRow 54 = .ok (.areturn, 1) := by decide +kernel
theorem dX5_init_0 : decode cX5_init 0 = .ok (.aload_n 0, 1) := by decide +kernel
theorem dX5_init_1 : decode cX5_init 1 = .ok (.invokespecial 3, 3) := by decide +kernel
theorem dX5_init_4 : decode cX5_init 4 = .ok (.aload_n 0, 1) := by decide +kernel
theorem dX5_init_5 : decode cX5_init 5 = .ok (.iconst 4, 1) := by decide +kernel
theorem dX5_init_6 : decode cX5_init 6 = .ok (.newarray .int, 2) := by decide +kernel
theorem dX5_init_8 : decode cX5_init 8 = .ok (.putfield 9, 3) := by decide +kernel
theorem dX5_init_11 : decode cX5_init 11 = .ok (.aload_n 0, 1) := by decide +kernel
theorem dX5_init_12 : decode cX5_init 12 = .ok (.iconst 4, 1) := by decide +kernel
theorem dX5_init_13 : decode cX5_init 13 = .ok (.newarray .int, 2) := by decide +kernel
theorem dX5_init_15 : decode cX5_init 15 = .ok (.putfield 15, 3) := by decide +kernel
theorem dX5_init_18 : decode cX5_init 18 = .ok (.aload_n 0, 1) := by decide +kernel
theorem dX5_init_19 : decode cX5_init 19 = .ok (.iconst 4, 1) := by decide +kernel
theorem dX5_init_20 : decode cX5_init 20 = .ok (.newarray .int, 2) := by decide +kernel
theorem dX5_init_22 : decode cX5_init 22 = .ok (.putfield 18, 3) := by decide +kernel
theorem dX5_init_25 : decode cX5_init 25 = .ok (.aload_n 0, 1) := by decide +kernel
theorem dX5_init_26 : decode cX5_init 26 = .ok (.iconst 4, 1) := by decide +kernel
theorem dX5_init_27 : decode cX5_init 27 = .ok (.newarray .int, 2) := by decide +kernel
theorem dX5_init_29 : decode cX5_init 29 = .ok (.putfield 21, 3) := by decide +kernel
theorem dX5_init_32 : decode cX5_init 32 = .ok (.aload_n 0, 1) := by decide +kernel
theorem dX5_init_33 : decode cX5_init 33 = .ok (.iconst 4, 1) := by decide +kernel
theorem dX5_init_34 : decode cX5_init 34 = .ok (.newarray .int, 2) := by decide +kernel
theorem dX5_init_36 : decode cX5_init 36 = .ok (.putfield 24, 3) := by decide +kernel
theorem dX5_init_39 : decode cX5_init 39 = .ok (.aload_n 0, 1) := by decide +kernel
theorem dX5_init_40 : decode cX5_init 40 = .ok (.iconst 2, 1) := by decide +kernel
theorem dX5_init_41 : decode cX5_init 41 = .ok (.newarray .int, 2) := by decide +kernel
theorem dX5_init_43 : decode cX5_init 43 = .ok (.putfield 27, 3) := by decide +kernel
theorem dX5_init_46 : decode cX5_init 46 = .ok (.aload_n 0, 1) := by decide +kernel
theorem dX5_init_47 : decode cX5_init 47 = .ok (.iconst 4, 1) := by decide +kernel
theorem dX5_init_48 : decode cX5_init 48 = .ok (.newarray .int, 2) := by decide +kernel
theorem dX5_init_50 : decode cX5_init 50 = .ok (.putfield 30, 3) := by decide +kernel
theorem dX5_init_53 : decode cX5_init 53 = .ok (.aload_n 0, 1) := by decide +kernel
theorem dX5_init_54 : decode cX5_init 54 = .ok (.invokevirtual 33, 3) := by decide +kernel
theorem dX5_init_57 : decode cX5_init 57 = .ok (.return_, 1) := by decide +kernel
theorem dX5_forget_0 : decode cX5_forget 0 = .ok (.aload_n 0, 1) := by decide +kernel
theorem dX5_forget_1 : decode cX5_forget 1 = .ok (.getfield 9, 3) := by decide +kernel
theorem dX5_forget_4 : decode cX5_forget 4 = .ok (.sipush (-1000), 3) := by decide +kernel
theorem dX5_forget_7 : decode cX5_forget 7 = .ok (.invokestatic 36, 3) := by decide +kernel
theorem dX5_forget_10 : decode cX5_forget 10 = .ok (.aload_n 0, 1) := by decide +kernel
theorem dX5_forget_11 : decode cX5_forget 11 = .ok (.getfield 15, 3) := by decide +kernel
theorem dX5_forget_14 : decode cX5_forget 14 = .ok (.sipush (-1000), 3) := by decide +kernel
theorem dX5_forget_17 : decode cX5_forget 17 = .ok (.invokestatic 36, 3) := by decide +kernel
theorem dX5_forget_20 : decode cX5_forget 20 = .ok (.aload_n 0, 1) := by decide +kernel
theorem dX5_forget_21 : decode cX5_forget 21 = .ok (.getfield 18, 3) := by decide +kernel
theorem dX5_forget_24 : decode cX5_forget 24 = .ok (.sipush (-1000), 3) := by decide +kernel
theorem dX5_forget_27 : decode cX5_forget 27 = .ok (.invokestatic 36, 3) := by decide +kernel
theorem dX5_forget_30 : decode cX5_forget 30 = .ok (.aload_n 0, 1) := by decide +kernel
theorem dX5_forget_31 : decode cX5_forget 31 = .ok (.getfield 21, 3) := by decide +kernel
theorem dX5_forget_34 : decode cX5_forget 34 = .ok (.sipush (-1000), 3) := by decide +kernel
theorem dX5_forget_37 : decode cX5_forget 37 = .ok (.invokestatic 36, 3) := by decide +kernel
theorem dX5_forget_40 : decode cX5_forget 40 = .ok (.aload_n 0, 1) := by decide +kernel
theorem dX5_forget_41 : decode cX5_forget 41 = .ok (.getfield 24, 3) := by decide +kernel
theorem dX5_forget_44 : decode cX5_forget 44 = .ok (.sipush (-1000), 3) := by decide +kernel
theorem dX5_forget_47 : decode cX5_forget 47 = .ok (.invokestatic 36, 3) := by decide +kernel
theorem dX5_forget_50 : decode cX5_forget 50 = .ok (.aload_n 0, 1) := by decide +kernel
theorem dX5_forget_51 : decode cX5_forget 51 = .ok (.getfield 27, 3) := by decide +kernel
theorem dX5_forget_54 : decode cX5_forget 54 = .ok (.sipush (-1000), 3) := by decide +kernel
theorem dX5_forget_57 : decode cX5_forget 57 = .ok (.invokestatic 36, 3) := by decide +kernel
theorem dX5_forget_60 : decode cX5_forget 60 = .ok (.aload_n 0, 1) := by decide +kernel
theorem dX5_forget_61 : decode cX5_forget 61 = .ok (.getfield 30, 3) := by decide +kernel
theorem dX5_forget_64 : decode cX5_forget 64 = .ok (.sipush (-1000), 3) := by decide +kernel
theorem dX5_forget_67 : decode cX5_forget 67 = .ok (.invokestatic 36, 3) := by decide +kernel
theorem dX5_forget_70 : decode cX5_forget 70 = .ok (.aload_n 0, 1) := by decide +kernel
theorem dX5_forget_71 : decode cX5_forget 71 = .ok (.iconst 0, 1) := by decide +kernel
theorem dX5_forget_72 : decode cX5_forget 72 = .ok (.putfield 42, 3) := by decide +kernel
theorem dX5_forget_75 : decode cX5_forget 75 = .ok (.aload_n 0, 1) := by decide +kernel
theorem dX5_forget_76 : decode cX5_forget 76 = .ok (.sipush (-1000), 3) := by decide +kernel
theorem dX5_forget_79 : decode cX5_forget 79 = .ok (.putfield 46, 3) := by decide +kernel
theorem dX5_forget_82 : decode cX5_forget 82 = .ok (.aload_n 0, 1) := by decide +kernel
theorem dX5_forget_83 : decode cX5_forget 83 = .ok (.sipush (-1000), 3) := by decide +kernel
theorem dX5_forget_86 : decode cX5_forget 86 = .ok (.putfield 49, 3) := by decide +kernel
theorem dX5_forget_89 : decode cX5_forget 89 = .ok (.aload_n 0, 1) := by decide +kernel
theorem dX5_forget_90 : decode cX5_forget 90 = .ok (.sipush (-1000), 3) := by decide +kernel
theorem dX5_forget_93 : decode cX5_forget 93 = .ok (.putfield 52, 3) := by decide +kernel
theorem dX5_forget_96 : decode cX5_forget 96 = .ok (.aload_n 0, 1) := by decide +kernel
theorem dX5_forget_97 : decode cX5_forget 97 = .ok (.sipush (-1000), 3) := by decide +kernel
theorem dX5_forget_100 : decode cX5_forget 100 = .ok (.putfield 55, 3) := by decide +kernel
theorem dX5_forget_103 : decode cX5_forget 103 = .ok (.return_, 1) := by decide +kernel
theorem dX5_remember_0 : decode cX5_remember 0 = .ok (.iload_n 1, 1) := by decide +kernel
theorem dX5_remember_1 : decode cX5_remember 1 = .ok (.tableswitch 103 0 3 #[31, 40, 55, 79], 31) := by decide +kernel
theorem dX5_remember_32 : decode cX5_remember 32 = .ok (.aload_n 0, 1) := by decide +kernel
theorem dX5_remember_33 : decode cX5_remember 33 = .ok (.iload_n 2, 1) := by decide +kernel
theorem dX5_remember_34 : decode cX5_remember 34 = .ok (.iload_n 3, 1) := by decide +kernel
theorem dX5_remember_35 : decode cX5_remember 35 = .ok (.invokevirtual 58, 3) := by decide +kernel
theorem dX5_remember_38 : decode cX5_remember 38 = .ok (.goto 71, 3) := by decide +kernel
theorem dX5_remember_41 : decode cX5_remember 41 = .ok (.aload_n 0, 1) := by decide +kernel
theorem dX5_remember_42 : decode cX5_remember 42 = .ok (.getfield 18, 3) := by decide +kernel
theorem dX5_remember_45 : decode cX5_remember 45 = .ok (.iload_n 2, 1) := by decide +kernel
theorem dX5_remember_46 : decode cX5_remember 46 = .ok (.iload_n 3, 1) := by decide +kernel
theorem dX5_remember_47 : decode cX5_remember 47 = .ok (.iastore, 1) := by decide +kernel
theorem dX5_remember_48 : decode cX5_remember 48 = .ok (.aload_n 0, 1) := by decide +kernel
theorem dX5_remember_49 : decode cX5_remember 49 = .ok (.iload_n 3, 1) := by decide +kernel
theorem dX5_remember_50 : decode cX5_remember 50 = .ok (.putfield 46, 3) := by decide +kernel
theorem dX5_remember_53 : decode cX5_remember 53 = .ok (.goto 56, 3) := by decide +kernel
theorem dX5_remember_56 : decode cX5_remember 56 = .ok (.aload_n 0, 1) := by decide +kernel
theorem dX5_remember_57 : decode cX5_remember 57 = .ok (.getfield 21, 3) := by decide +kernel
theorem dX5_remember_60 : decode cX5_remember 60 = .ok (.iload_n 2, 1) := by decide +kernel
theorem dX5_remember_61 : decode cX5_remember 61 = .ok (.iload_n 3, 1) := by decide +kernel
theorem dX5_remember_62 : decode cX5_remember 62 = .ok (.iastore, 1) := by decide +kernel
theorem dX5_remember_63 : decode cX5_remember 63 = .ok (.aload_n 0, 1) := by decide +kernel
theorem dX5_remember_64 : decode cX5_remember 64 = .ok (.iload_n 3, 1) := by decide +kernel
theorem dX5_remember_65 : decode cX5_remember 65 = .ok (.putfield 49, 3) := by decide +kernel
theorem dX5_remember_68 : decode cX5_remember 68 = .ok (.aload_n 0, 1) := by decide +kernel
theorem dX5_remember_69 : decode cX5_remember 69 = .ok (.getfield 27, 3) := by decide +kernel
theorem dX5_remember_72 : decode cX5_remember 72 = .ok (.iload_n 2, 1) := by decide +kernel
theorem dX5_remember_73 : decode cX5_remember 73 = .ok (.iconst 2, 1) := by decide +kernel
theorem dX5_remember_74 : decode cX5_remember 74 = .ok (.idiv, 1) := by decide +kernel
theorem dX5_remember_75 : decode cX5_remember 75 = .ok (.iload_n 3, 1) := by decide +kernel
theorem dX5_remember_76 : decode cX5_remember 76 = .ok (.iastore, 1) := by decide +kernel
theorem dX5_remember_77 : decode cX5_remember 77 = .ok (.goto 32, 3) := by decide +kernel
theorem dX5_remember_80 : decode cX5_remember 80 = .ok (.aload_n 0, 1) := by decide +kernel
theorem dX5_remember_81 : decode cX5_remember 81 = .ok (.getfield 24, 3) := by decide +kernel
theorem dX5_remember_84 : decode cX5_remember 84 = .ok (.iload_n 2, 1) := by decide +kernel
theorem dX5_remember_85 : decode cX5_remember 85 = .ok (.iload_n 3, 1) := by decide +kernel
theorem dX5_remember_86 : decode cX5_remember 86 = .ok (.iastore, 1) := by decide +kernel
theorem dX5_remember_87 : decode cX5_remember 87 = .ok (.aload_n 0, 1) := by decide +kernel
theorem dX5_remember_88 : decode cX5_remember 88 = .ok (.iload_n 3, 1) := by decide +kernel
theorem dX5_remember_89 : decode cX5_remember 89 = .ok (.putfield 52, 3) := by decide +kernel
theorem dX5_remember_92 : decode cX5_remember 92 = .ok (.aload_n 0, 1) := by decide +kernel
theorem dX5_remember_93 : decode cX5_remember 93 = .ok (.getfield 27, 3) := by decide +kernel
theorem dX5_remember_96 : decode cX5_remember 96 = .ok (.iload_n 2, 1) := by decide +kernel
theorem dX5_remember_97 : decode cX5_remember 97 = .ok (.iconst 2, 1) := by decide +kernel
theorem dX5_remember_98 : decode cX5_remember 98 = .ok (.idiv, 1) := by decide +kernel
theorem dX5_remember_99 : decode cX5_remember 99 = .ok (.iload_n 3, 1) := by decide +kernel
theorem dX5_remember_100 : decode cX5_remember 100 = .ok (.iastore, 1) := by decide +kernel
theorem dX5_remember_101 : decode cX5_remember 101 = .ok (.goto 8, 3) := by decide +kernel
theorem dX5_remember_104 : decode cX5_remember 104 = .ok (.aload_n 0, 1) := by decide +kernel
theorem dX5_remember_105 : decode cX5_remember 105 = .ok (.iload_n 3, 1) := by decide +kernel
theorem dX5_remember_106 : decode cX5_remember 106 = .ok (.putfield 55, 3) := by decide +kernel
theorem dX5_remember_109 : decode cX5_remember 109 = .ok (.return_, 1) := by decide +kernel
theorem dX5_rememberOpen_0 : decode cX5_rememberOpen 0 = .ok (.aload_n 0, 1) := by decide +kernel
theorem dX5_rememberOpen_1 : decode cX5_rememberOpen 1 = .ok (.getfield 9, 3) := by decide +kernel
theorem dX5_rememberOpen_4 : decode cX5_rememberOpen 4 = .ok (.iload_n 1, 1) := by decide +kernel
theorem dX5_rememberOpen_5 : decode cX5_rememberOpen 5 = .ok (.iload_n 2, 1) := by decide +kernel
theorem dX5_rememberOpen_6 : decode cX5_rememberOpen 6 = .ok (.iastore, 1) := by decide +kernel
theorem dX5_rememberOpen_7 : decode cX5_rememberOpen 7 = .ok (.iconst 0, 1) := by decide +kernel
theorem dX5_rememberOpen_8 : decode cX5_rememberOpen 8 = .ok (.istore_n 3, 1) := by decide +kernel
theorem dX5_rememberOpen_9 : decode cX5_rememberOpen 9 = .ok (.iload_n 3, 1) := by decide +kernel
theorem dX5_rememberOpen_10 : decode cX5_rememberOpen 10 = .ok (.iconst 4, 1) := by decide +kernel
theorem dX5_rememberOpen_11 : decode cX5_rememberOpen 11 = .ok (.if_icmp .ge 21, 3) := by decide +kernel
theorem dX5_rememberOpen_14 : decode cX5_rememberOpen 14 = .ok (.iload_n 3, 1) := by decide +kernel
theorem dX5_rememberOpen_15 : decode cX5_rememberOpen 15 = .ok (.iload_n 1, 1) := by decide +kernel
theorem dX5_rememberOpen_16 : decode cX5_rememberOpen 16 = .ok (.if_icmp .eq 10, 3) := by decide +kernel
theorem dX5_rememberOpen_19 : decode cX5_rememberOpen 19 = .ok (.aload_n 0, 1) := by decide +kernel
theorem dX5_rememberOpen_20 : decode cX5_rememberOpen 20 = .ok (.getfield 15, 3) := by decide +kernel
theorem dX5_rememberOpen_23 : decode cX5_rememberOpen 23 = .ok (.iload_n 3, 1) := by decide +kernel
theorem dX5_rememberOpen_24 : decode cX5_rememberOpen 24 = .ok (.iload_n 2, 1) := by decide +kernel
theorem dX5_rememberOpen_25 : decode cX5_rememberOpen 25 = .ok (.iastore, 1) := by decide +kernel
theorem dX5_rememberOpen_26 : decode cX5_rememberOpen 26 = .ok (.iinc 3 1, 3) := by decide +kernel
theorem dX5_rememberOpen_29 : decode cX5_rememberOpen 29 = .ok (.goto (-20), 3) := by decide +kernel
theorem dX5_rememberOpen_32 : decode cX5_rememberOpen 32 = .ok (.aload_n 0, 1) := by decide +kernel
theorem dX5_rememberOpen_33 : decode cX5_rememberOpen 33 = .ok (.getfield 30, 3) := by decide +kernel
theorem dX5_rememberOpen_36 : decode cX5_rememberOpen 36 = .ok (.aload_n 0, 1) := by decide +kernel
theorem dX5_rememberOpen_37 : decode cX5_rememberOpen 37 = .ok (.getfield 42, 3) := by decide +kernel
theorem dX5_rememberOpen_40 : decode cX5_rememberOpen 40 = .ok (.iconst 4, 1) := by decide +kernel
theorem dX5_rememberOpen_41 : decode cX5_rememberOpen 41 = .ok (.irem, 1) := by decide +kernel
theorem dX5_rememberOpen_42 : decode cX5_rememberOpen 42 = .ok (.iload_n 2, 1) := by decide +kernel
theorem dX5_rememberOpen_43 : decode cX5_rememberOpen 43 = .ok (.iastore, 1) := by decide +kernel
theorem dX5_rememberOpen_44 : decode cX5_rememberOpen 44 = .ok (.aload_n 0, 1) := by decide +kernel
theorem dX5_rememberOpen_45 : decode cX5_rememberOpen 45 = .ok (.dup, 1) := by decide +kernel
theorem dX5_rememberOpen_46 : decode cX5_rememberOpen 46 = .ok (.getfield 42, 3) := by decide +kernel
theorem dX5_rememberOpen_49 : decode cX5_rememberOpen 49 = .ok (.iconst 1, 1) := by decide +kernel
theorem dX5_rememberOpen_50 : decode cX5_rememberOpen 50 = .ok (.iadd, 1) := by decide +kernel
theorem dX5_rememberOpen_51 : decode cX5_rememberOpen 51 = .ok (.putfield 42, 3) := by decide +kernel
theorem dX5_rememberOpen_54 : decode cX5_rememberOpen 54 = .ok (.return_, 1) := by decide +kernel
theorem dX5_leastTick_0 : decode cX5_leastTick 0 = .ok (.iconst 1, 1) := by decide +kernel
theorem dX5_leastTick_1 : decode cX5_leastTick 1 = .ok (.istore 4, 2) := by decide +kernel
theorem dX5_leastTick_3 : decode cX5_leastTick 3 = .ok (.iconst 0, 1) := by decide +kernel
theorem dX5_leastTick_4 : decode cX5_leastTick 4 = .ok (.istore 5, 2) := by decide +kernel
theorem dX5_leastTick_6 : decode cX5_leastTick 6 = .ok (.iload 5, 2) := by decide +kernel
theorem dX5_leastTick_8 : decode cX5_leastTick 8 = .ok (.aload_n 1, 1) := by decide +kernel
theorem dX5_leastTick_9 : decode cX5_leastTick 9 = .ok (.arraylength, 1) := by decide +kernel
theorem dX5_leastTick_10 : decode cX5_leastTick 10 = .ok (.if_icmp .ge 29, 3) := by decide +kernel
theorem dX5_leastTick_13 : decode cX5_leastTick 13 = .ok (.iload 4, 2) := by decide +kernel
theorem dX5_leastTick_15 : decode cX5_leastTick 15 = .ok (.aload_n 0, 1) := by decide +kernel
theorem dX5_leastTick_16 : decode cX5_leastTick 16 = .ok (.iload 5, 2) := by decide +kernel
theorem dX5_leastTick_18 : decode cX5_leastTick 18 = .ok (.iload_n 2, 1) := by decide +kernel
theorem dX5_leastTick_19 : decode cX5_leastTick 19 = .ok (.iload_n 3, 1) := by decide +kernel
theorem dX5_leastTick_20 : decode cX5_leastTick 20 = .ok (.invokevirtual 62, 3) := by decide +kernel
theorem dX5_leastTick_23 : decode cX5_leastTick 23 = .ok (.aload_n 1, 1) := by decide +kernel
theorem dX5_leastTick_24 : decode cX5_leastTick 24 = .ok (.iload 5, 2) := by decide +kernel
theorem dX5_leastTick_26 : decode cX5_leastTick 26 = .ok (.iaload, 1) := by decide +kernel
theorem dX5_leastTick_27 : decode cX5_leastTick 27 = .ok (.iadd, 1) := by decide +kernel
theorem dX5_leastTick_28 : decode cX5_leastTick 28 = .ok (.invokestatic 66, 3) := by decide +kernel
theorem dX5_leastTick_31 : decode cX5_leastTick 31 = .ok (.istore 4, 2) := by decide +kernel
theorem dX5_leastTick_33 : decode cX5_leastTick 33 = .ok (.iinc 5 1, 3) := by decide +kernel
theorem dX5_leastTick_36 : decode cX5_leastTick 36 = .ok (.goto (-30), 3) := by decide +kernel
theorem dX5_leastTick_39 : decode cX5_leastTick 39 = .ok (.iload 4, 2) := by decide +kernel
theorem dX5_leastTick_41 : decode cX5_leastTick 41 = .ok (.ireturn, 1) := by decide +kernel
theorem dX5_leastBroken_0 : decode cX5_leastBroken 0 = .ok (.iconst 0, 1) := by decide +kernel
theorem dX5_leastBroken_1 : decode cX5_leastBroken 1 = .ok (.istore 5, 2) := by decide +kernel
theorem dX5_leastBroken_3 : decode cX5_leastBroken 3 = .ok (.iload 5, 2) := by decide +kernel
theorem dX5_leastBroken_5 : decode cX5_leastBroken 5 = .ok (.aload_n 1, 1) := by decide +kernel
theorem dX5_leastBroken_6 : decode cX5_leastBroken 6 = .ok (.arraylength, 1) := by decide +kernel
theorem dX5_leastBroken_7 : decode cX5_leastBroken 7 = .ok (.if_icmp .ge 30, 3) := by decide +kernel
theorem dX5_leastBroken_10 : decode cX5_leastBroken 10 = .ok (.iload 4, 2) := by decide +kernel
theorem dX5_leastBroken_12 : decode cX5_leastBroken 12 = .ok (.aload_n 0, 1) := by decide +kernel
theorem dX5_leastBroken_13 : decode cX5_leastBroken 13 = .ok (.iload 5, 2) := by decide +kernel
theorem dX5_leastBroken_15 : decode cX5_leastBroken 15 = .ok (.iload_n 2, 1) := by decide +kernel
theorem dX5_leastBroken_16 : decode cX5_leastBroken 16 = .ok (.iload_n 3, 1) := by decide +kernel
theorem dX5_leastBroken_17 : decode cX5_leastBroken 17 = .ok (.invokevirtual 62, 3) := by decide +kernel
theorem dX5_leastBroken_20 : decode cX5_leastBroken 20 = .ok (.aload_n 1, 1) := by decide +kernel
theorem dX5_leastBroken_21 : decode cX5_leastBroken 21 = .ok (.iload 5, 2) := by decide +kernel
theorem dX5_leastBroken_23 : decode cX5_leastBroken 23 = .ok (.iaload, 1) := by decide +kernel
theorem dX5_leastBroken_24 : decode cX5_leastBroken 24 = .ok (.iadd, 1) := by decide +kernel
theorem dX5_leastBroken_25 : decode cX5_leastBroken 25 = .ok (.if_icmp .ge 6, 3) := by decide +kernel
theorem dX5_leastBroken_28 : decode cX5_leastBroken 28 = .ok (.iload 5, 2) := by decide +kernel
theorem dX5_leastBroken_30 : decode cX5_leastBroken 30 = .ok (.ireturn, 1) := by decide +kernel
theorem dX5_leastBroken_31 : decode cX5_leastBroken 31 = .ok (.iinc 5 1, 3) := by decide +kernel
theorem dX5_leastBroken_34 : decode cX5_leastBroken 34 = .ok (.goto (-31), 3) := by decide +kernel
theorem dX5_leastBroken_37 : decode cX5_leastBroken 37 = .ok (.bipush (-2), 2) := by decide +kernel
theorem dX5_leastBroken_39 : decode cX5_leastBroken 39 = .ok (.ireturn, 1) := by decide +kernel
theorem dX5_countedFrom_0 : decode cX5_countedFrom 0 = .ok (.iload_n 2, 1) := by decide +kernel
theorem dX5_countedFrom_1 : decode cX5_countedFrom 1 = .ok (.iconst 2, 1) := by decide +kernel
theorem dX5_countedFrom_2 : decode cX5_countedFrom 2 = .ok (.if_icmp .eq 8, 3) := by decide +kernel
theorem dX5_countedFrom_5 : decode cX5_countedFrom 5 = .ok (.iload_n 2, 1) := by decide +kernel
theorem dX5_countedFrom_6 : decode cX5_countedFrom 6 = .ok (.iconst 3, 1) := by decide +kernel
theorem dX5_countedFrom_7 : decode cX5_countedFrom 7 = .ok (.if_icmp .ne 7, 3) := by decide +kernel
theorem dX5_countedFrom_10 : decode cX5_countedFrom 10 = .ok (.iconst 1, 1) := by decide +kernel
theorem dX5_countedFrom_11 : decode cX5_countedFrom 11 = .ok (.goto 4, 3) := by decide +kernel
theorem dX5_countedFrom_14 : decode cX5_countedFrom 14 = .ok (.iconst 0, 1) := by decide +kernel
theorem dX5_countedFrom_15 : decode cX5_countedFrom 15 = .ok (.istore 4, 2) := by decide +kernel
theorem dX5_countedFrom_17 : decode cX5_countedFrom 17 = .ok (.iload_n 1, 1) := by decide +kernel
theorem dX5_countedFrom_18 : decode cX5_countedFrom 18 = .ok (.tableswitch 289 0 12 #[66, 84, 102, 119, 137, 155, 175, 197, 213, 229, 246, 268, 273], 66) := by decide +kernel
theorem dX5_countedFrom_84 : decode cX5_countedFrom 84 = .ok (.iload 4, 2) := by decide +kernel
theorem dX5_countedFrom_86 : decode cX5_countedFrom 86 = .ok (.ifCond .eq 12, 3) := by decide +kernel
theorem dX5_countedFrom_89 : decode cX5_countedFrom 89 = .ok (.aload_n 0, 1) := by decide +kernel
theorem dX5_countedFrom_90 : decode cX5_countedFrom 90 = .ok (.getfield 9, 3) := by decide +kernel
theorem dX5_countedFrom_93 : decode cX5_countedFrom 93 = .ok (.iload_n 3, 1) := by decide +kernel
theorem dX5_countedFrom_94 : decode cX5_countedFrom 94 = .ok (.iaload, 1) := by decide +kernel
theorem dX5_countedFrom_95 : decode cX5_countedFrom 95 = .ok (.goto 6, 3) := by decide +kernel
theorem dX5_countedFrom_98 : decode cX5_countedFrom 98 = .ok (.sipush (-1000), 3) := by decide +kernel
theorem dX5_countedFrom_101 : decode cX5_countedFrom 101 = .ok (.ireturn, 1) := by decide +kernel
theorem dX5_countedFrom_102 : decode cX5_countedFrom 102 = .ok (.iload_n 2, 1) := by decide +kernel
theorem dX5_countedFrom_103 : decode cX5_countedFrom 103 = .ok (.iconst 1, 1) := by decide +kernel
theorem dX5_countedFrom_104 : decode cX5_countedFrom 104 = .ok (.if_icmp .ne 12, 3) := by decide +kernel
theorem dX5_countedFrom_107 : decode cX5_countedFrom 107 = .ok (.aload_n 0, 1) := by decide +kernel
theorem dX5_countedFrom_108 : decode cX5_countedFrom 108 = .ok (.getfield 9, 3) := by decide +kernel
theorem dX5_countedFrom_111 : decode cX5_countedFrom 111 = .ok (.iload_n 3, 1) := by decide +kernel
theorem dX5_countedFrom_112 : decode cX5_countedFrom 112 = .ok (.iaload, 1) := by decide +kernel
theorem dX5_countedFrom_113 : decode cX5_countedFrom 113 = .ok (.goto 6, 3) := by decide +kernel
theorem dX5_countedFrom_116 : decode cX5_countedFrom 116 = .ok (.sipush (-1000), 3) := by decide +kernel
theorem dX5_countedFrom_119 : decode cX5_countedFrom 119 = .ok (.ireturn, 1) := by decide +kernel
theorem dX5_countedFrom_120 : decode cX5_countedFrom 120 = .ok (.iload_n 2, 1) := by decide +kernel
theorem dX5_countedFrom_121 : decode cX5_countedFrom 121 = .ok (.ifCond .ne 12, 3) := by decide +kernel
theorem dX5_countedFrom_124 : decode cX5_countedFrom 124 = .ok (.aload_n 0, 1) := by decide +kernel
theorem dX5_countedFrom_125 : decode cX5_countedFrom 125 = .ok (.getfield 18, 3) := by decide +kernel
theorem dX5_countedFrom_128 : decode cX5_countedFrom 128 = .ok (.iload_n 3, 1) := by decide +kernel
theorem dX5_countedFrom_129 : decode cX5_countedFrom 129 = .ok (.iaload, 1) := by decide +kernel
theorem dX5_countedFrom_130 : decode cX5_countedFrom 130 = .ok (.goto 6, 3) := by decide +kernel
theorem dX5_countedFrom_133 : decode cX5_countedFrom 133 = .ok (.sipush (-1000), 3) := by decide +kernel
theorem dX5_countedFrom_136 : decode cX5_countedFrom 136 = .ok (.ireturn, 1) := by decide +kernel
theorem dX5_countedFrom_137 : decode cX5_countedFrom 137 = .ok (.iload_n 2, 1) := by decide +kernel
theorem dX5_countedFrom_138 : decode cX5_countedFrom 138 = .ok (.iconst 1, 1) := by decide +kernel
theorem dX5_countedFrom_139 : decode cX5_countedFrom 139 = .ok (.if_icmp .ne 12, 3) := by decide +kernel
theorem dX5_countedFrom_142 : decode cX5_countedFrom 142 = .ok (.aload_n 0, 1) := by decide +kernel
theorem dX5_countedFrom_143 : decode cX5_countedFrom 143 = .ok (.getfield 21, 3) := by decide +kernel
theorem dX5_countedFrom_146 : decode cX5_countedFrom 146 = .ok (.iload_n 3, 1) := by decide +kernel
theorem dX5_countedFrom_147 : decode cX5_countedFrom 147 = .ok (.iaload, 1) := by decide +kernel
theorem dX5_countedFrom_148 : decode cX5_countedFrom 148 = .ok (.goto 6, 3) := by decide +kernel
theorem dX5_countedFrom_151 : decode cX5_countedFrom 151 = .ok (.sipush (-1000), 3) := by decide +kernel
theorem dX5_countedFrom_154 : decode cX5_countedFrom 154 = .ok (.ireturn, 1) := by decide +kernel
theorem dX5_countedFrom_155 : decode cX5_countedFrom 155 = .ok (.iload_n 2, 1) := by decide +kernel
theorem dX5_countedFrom_156 : decode cX5_countedFrom 156 = .ok (.iconst 1, 1) := by decide +kernel
theorem dX5_countedFrom_157 : decode cX5_countedFrom 157 = .ok (.if_icmp .ne 12, 3) := by decide +kernel
theorem dX5_countedFrom_160 : decode cX5_countedFrom 160 = .ok (.aload_n 0, 1) := by decide +kernel
theorem dX5_countedFrom_161 : decode cX5_countedFrom 161 = .ok (.getfield 24, 3) := by decide +kernel
theorem dX5_countedFrom_164 : decode cX5_countedFrom 164 = .ok (.iload_n 3, 1) := by decide +kernel
theorem dX5_countedFrom_165 : decode cX5_countedFrom 165 = .ok (.iaload, 1) := by decide +kernel
theorem dX5_countedFrom_166 : decode cX5_countedFrom 166 = .ok (.goto 6, 3) := by decide +kernel
theorem dX5_countedFrom_169 : decode cX5_countedFrom 169 = .ok (.sipush (-1000), 3) := by decide +kernel
theorem dX5_countedFrom_172 : decode cX5_countedFrom 172 = .ok (.ireturn, 1) := by decide +kernel
theorem dX5_countedFrom_173 : decode cX5_countedFrom 173 = .ok (.iload 4, 2) := by decide +kernel
theorem dX5_countedFrom_175 : decode cX5_countedFrom 175 = .ok (.ifCond .eq 14, 3) := by decide +kernel
theorem dX5_countedFrom_178 : decode cX5_countedFrom 178 = .ok (.aload_n 0, 1) := by decide +kernel
theorem dX5_countedFrom_179 : decode cX5_countedFrom 179 = .ok (.getfield 27, 3) := by decide +kernel
theorem dX5_countedFrom_182 : decode cX5_countedFrom 182 = .ok (.iload_n 3, 1) := by decide +kernel
theorem dX5_countedFrom_183 : decode cX5_countedFrom 183 = .ok (.iconst 2, 1) := by decide +kernel
theorem dX5_countedFrom_184 : decode cX5_countedFrom 184 = .ok (.idiv, 1) := by decide +kernel
theorem dX5_countedFrom_185 : decode cX5_countedFrom 185 = .ok (.iaload, 1) := by decide +kernel
theorem dX5_countedFrom_186 : decode cX5_countedFrom 186 = .ok (.goto 6, 3) := by decide +kernel
theorem dX5_countedFrom_189 : decode cX5_countedFrom 189 = .ok (.sipush (-1000), 3) := by decide +kernel
theorem dX5_countedFrom_192 : decode cX5_countedFrom 192 = .ok (.ireturn, 1) := by decide +kernel
theorem dX5_countedFrom_193 : decode cX5_countedFrom 193 = .ok (.iload 4, 2) := by decide +kernel
theorem dX5_countedFrom_195 : decode cX5_countedFrom 195 = .ok (.ifCond .eq 16, 3) := by decide +kernel
theorem dX5_countedFrom_198 : decode cX5_countedFrom 198 = .ok (.aload_n 0, 1) := by decide +kernel
theorem dX5_countedFrom_199 : decode cX5_countedFrom 199 = .ok (.getfield 27, 3) := by decide +kernel
theorem dX5_countedFrom_202 : decode cX5_countedFrom 202 = .ok (.iconst 1, 1) := by decide +kernel
theorem dX5_countedFrom_203 : decode cX5_countedFrom 203 = .ok (.iload_n 3, 1) := by decide +kernel
theorem dX5_countedFrom_204 : decode cX5_countedFrom 204 = .ok (.iconst 2, 1) := by decide +kernel
theorem dX5_countedFrom_205 : decode cX5_countedFrom 205 = .ok (.idiv, 1) := by decide +kernel
theorem dX5_countedFrom_206 : decode cX5_countedFrom 206 = .ok (.isub, 1) := by decide +kernel
theorem dX5_countedFrom_207 : decode cX5_countedFrom 207 = .ok (.iaload, 1) := by decide +kernel
theorem dX5_countedFrom_208 : decode cX5_countedFrom 208 = .ok (.goto 6, 3) := by decide +kernel
theorem dX5_countedFrom_211 : decode cX5_countedFrom 211 = .ok (.sipush (-1000), 3) := by decide +kernel
theorem dX5_countedFrom_214 : decode cX5_countedFrom 214 = .ok (.ireturn, 1) := by decide +kernel
theorem dX5_countedFrom_215 : decode cX5_countedFrom 215 = .ok (.iload_n 2, 1) := by decide +kernel
theorem dX5_countedFrom_216 : decode cX5_countedFrom 216 = .ok (.iconst 3, 1) := by decide +kernel
theorem dX5_countedFrom_217 : decode cX5_countedFrom 217 = .ok (.if_icmp .ne 10, 3) := by decide +kernel
theorem dX5_countedFrom_220 : decode cX5_countedFrom 220 = .ok (.aload_n 0, 1) := by decide +kernel
theorem dX5_countedFrom_221 : decode cX5_countedFrom 221 = .ok (.getfield 49, 3) := by decide +kernel
theorem dX5_countedFrom_224 : decode cX5_countedFrom 224 = .ok (.goto 6, 3) := by decide +kernel
theorem dX5_countedFrom_227 : decode cX5_countedFrom 227 = .ok (.sipush (-1000), 3) := by decide +kernel
theorem dX5_countedFrom_230 : decode cX5_countedFrom 230 = .ok (.ireturn, 1) := by decide +kernel
theorem dX5_countedFrom_231 : decode cX5_countedFrom 231 = .ok (.iload_n 2, 1) := by decide +kernel
theorem dX5_countedFrom_232 : decode cX5_countedFrom 232 = .ok (.iconst 2, 1) := by decide +kernel
theorem dX5_countedFrom_233 : decode cX5_countedFrom 233 = .ok (.if_icmp .ne 10, 3) := by decide +kernel
theorem dX5_countedFrom_236 : decode cX5_countedFrom 236 = .ok (.aload_n 0, 1) := by decide +kernel
theorem dX5_countedFrom_237 : decode cX5_countedFrom 237 = .ok (.getfield 52, 3) := by decide +kernel
theorem dX5_countedFrom_240 : decode cX5_countedFrom 240 = .ok (.goto 6, 3) := by decide +kernel
theorem dX5_countedFrom_243 : decode cX5_countedFrom 243 = .ok (.sipush (-1000), 3) := by decide +kernel
theorem dX5_countedFrom_246 : decode cX5_countedFrom 246 = .ok (.ireturn, 1) := by decide +kernel
theorem dX5_countedFrom_247 : decode cX5_countedFrom 247 = .ok (.iload_n 2, 1) := by decide +kernel
theorem dX5_countedFrom_248 : decode cX5_countedFrom 248 = .ok (.ifCond .ne 12, 3) := by decide +kernel
theorem dX5_countedFrom_251 : decode cX5_countedFrom 251 = .ok (.aload_n 0, 1) := by decide +kernel
theorem dX5_countedFrom_252 : decode cX5_countedFrom 252 = .ok (.getfield 15, 3) := by decide +kernel
theorem dX5_countedFrom_255 : decode cX5_countedFrom 255 = .ok (.iload_n 3, 1) := by decide +kernel
theorem dX5_countedFrom_256 : decode cX5_countedFrom 256 = .ok (.iaload, 1) := by decide +kernel
theorem dX5_countedFrom_257 : decode cX5_countedFrom 257 = .ok (.goto 6, 3) := by decide +kernel
theorem dX5_countedFrom_260 : decode cX5_countedFrom 260 = .ok (.sipush (-1000), 3) := by decide +kernel
theorem dX5_countedFrom_263 : decode cX5_countedFrom 263 = .ok (.ireturn, 1) := by decide +kernel
theorem dX5_countedFrom_264 : decode cX5_countedFrom 264 = .ok (.iload_n 2, 1) := by decide +kernel
theorem dX5_countedFrom_265 : decode cX5_countedFrom 265 = .ok (.ifCond .ne 17, 3) := by decide +kernel
theorem dX5_countedFrom_268 : decode cX5_countedFrom 268 = .ok (.aload_n 0, 1) := by decide +kernel
theorem dX5_countedFrom_269 : decode cX5_countedFrom 269 = .ok (.getfield 30, 3) := by decide +kernel
theorem dX5_countedFrom_272 : decode cX5_countedFrom 272 = .ok (.aload_n 0, 1) := by decide +kernel
theorem dX5_countedFrom_273 : decode cX5_countedFrom 273 = .ok (.getfield 42, 3) := by decide +kernel
theorem dX5_countedFrom_276 : decode cX5_countedFrom 276 = .ok (.iconst 4, 1) := by decide +kernel
theorem dX5_countedFrom_277 : decode cX5_countedFrom 277 = .ok (.irem, 1) := by decide +kernel
theorem dX5_countedFrom_278 : decode cX5_countedFrom 278 = .ok (.iaload, 1) := by decide +kernel
theorem dX5_countedFrom_279 : decode cX5_countedFrom 279 = .ok (.goto 6, 3) := by decide +kernel
theorem dX5_countedFrom_282 : decode cX5_countedFrom 282 = .ok (.sipush (-1000), 3) := by decide +kernel
theorem dX5_countedFrom_285 : decode cX5_countedFrom 285 = .ok (.ireturn, 1) := by decide +kernel
theorem dX5_countedFrom_286 : decode cX5_countedFrom 286 = .ok (.aload_n 0, 1) := by decide +kernel
theorem dX5_countedFrom_287 : decode cX5_countedFrom 287 = .ok (.getfield 55, 3) := by decide +kernel
theorem dX5_countedFrom_290 : decode cX5_countedFrom 290 = .ok (.ireturn, 1) := by decide +kernel
theorem dX5_countedFrom_291 : decode cX5_countedFrom 291 = .ok (.iload_n 2, 1) := by decide +kernel
theorem dX5_countedFrom_292 : decode cX5_countedFrom 292 = .ok (.iconst 4, 1) := by decide +kernel
theorem dX5_countedFrom_293 : decode cX5_countedFrom 293 = .ok (.if_icmp .ne 10, 3) := by decide +kernel
theorem dX5_countedFrom_296 : decode cX5_countedFrom 296 = .ok (.aload_n 0, 1) := by decide +kernel
theorem dX5_countedFrom_297 : decode cX5_countedFrom 297 = .ok (.getfield 46, 3) := by decide +kernel
theorem dX5_countedFrom_300 : decode cX5_countedFrom 300 = .ok (.goto 6, 3) := by decide +kernel
theorem dX5_countedFrom_303 : decode cX5_countedFrom 303 = .ok (.sipush (-1000), 3) := by decide +kernel
theorem dX5_countedFrom_306 : decode cX5_countedFrom 306 = .ok (.ireturn, 1) := by decide +kernel
theorem dX5_countedFrom_307 : decode cX5_countedFrom 307 = .ok (.sipush (-1000), 3) := by decide +kernel
theorem dX5_countedFrom_310 : decode cX5_countedFrom 310 = .ok (.ireturn, 1) := by decide +kernel
theorem dX6_init_0 : decode cX6_init 0 = .ok (.aload_n 0, 1) := by decide +kernel
theorem dX6_init_1 : decode cX6_init 1 = .ok (.iload_n 1, 1) := by decide +kernel
theorem dX6_init_2 : decode cX6_init 2 = .ok (.iload_n 2, 1) := by decide +kernel
theorem dX6_init_3 : decode cX6_init 3 = .ok (.iload_n 3, 1) := by decide +kernel
theorem dX6_init_4 : decode cX6_init 4 = .ok (.iload 4, 2) := by decide +kernel
theorem dX6_init_6 : decode cX6_init 6 = .ok (.invokespecial 3, 3) := by decide +kernel
theorem dX6_init_9 : decode cX6_init 9 = .ok (.return_, 1) := by decide +kernel
theorem dX6_kind_0 : decode cX6_kind 0 = .ok (.iconst 0, 1) := by decide +kernel
theorem dX6_kind_1 : decode cX6_kind 1 = .ok (.ireturn, 1) := by decide +kernel
theorem dX6_doneBy_0 : decode cX6_doneBy 0 = .ok (.iconst 2, 1) := by decide +kernel
theorem dX6_doneBy_1 : decode cX6_doneBy 1 = .ok (.ireturn, 1) := by decide +kernel
theorem dX6_answerFrom_0 : decode cX6_answerFrom 0 = .ok (.iload_n 1, 1) := by decide +kernel
theorem dX6_answerFrom_1 : decode cX6_answerFrom 1 = .ok (.ireturn, 1) := by decide +kernel
theorem dX6_fail_0 : decode cX6_fail 0 = .ok (.return_, 1) := by decide +kernel
theorem dX7_init_0 : decode cX7_init 0 = .ok (.aload_n 0, 1) := by decide +kernel
theorem dX7_init_1 : decode cX7_init 1 = .ok (.invokespecial 3, 3) := by decide +kernel
theorem dX7_init_4 : decode cX7_init 4 = .ok (.aload_n 0, 1) := by decide +kernel
theorem dX7_init_5 : decode cX7_init 5 = .ok (.sipush 400, 3) := by decide +kernel
theorem dX7_init_8 : decode cX7_init 8 = .ok (.anewarray 9, 3) := by decide +kernel
theorem dX7_init_11 : decode cX7_init 11 = .ok (.putfield 11, 3) := by decide +kernel
theorem dX7_init_14 : decode cX7_init 14 = .ok (.aload_n 0, 1) := by decide +kernel
theorem dX7_init_15 : decode cX7_init 15 = .ok (.sipush 1024, 3) := by decide +kernel
theorem dX7_init_18 : decode cX7_init 18 = .ok (.newarray .int, 2) := by decide +kernel
theorem dX7_init_20 : decode cX7_init 20 = .ok (.putfield 17, 3) := by decide +kernel
theorem dX7_init_23 : decode cX7_init 23 = .ok (.aload_n 0, 1) := by decide +kernel
theorem dX7_init_24 : decode cX7_init 24 = .ok (.iconst 4, 1) := by decide +kernel
theorem dX7_init_25 : decode cX7_init 25 = .ok (.newarray .int, 2) := by decide +kernel
theorem dX7_init_27 : decode cX7_init 27 = .ok (.putfield 21, 3) := by decide +kernel
theorem dX7_init_30 : decode cX7_init 30 = .ok (.aload_n 0, 1) := by decide +kernel
theorem dX7_init_31 : decode cX7_init 31 = .ok (.iconst 4, 1) := by decide +kernel
theorem dX7_init_32 : decode cX7_init 32 = .ok (.newarray .int, 2) := by decide +kernel
theorem dX7_init_34 : decode cX7_init 34 = .ok (.dup, 1) := by decide +kernel
theorem dX7_init_35 : decode cX7_init 35 = .ok (.iconst 0, 1) := by decide +kernel
theorem dX7_init_36 : decode cX7_init 36 = .ok (.bipush (-2), 2) := by decide +kernel
theorem dX7_init_38 : decode cX7_init 38 = .ok (.iastore, 1) := by decide +kernel
theorem dX7_init_39 : decode cX7_init 39 = .ok (.dup, 1) := by decide +kernel
theorem dX7_init_40 : decode cX7_init 40 = .ok (.iconst 1, 1) := by decide +kernel
theorem dX7_init_41 : decode cX7_init 41 = .ok (.bipush (-2), 2) := by decide +kernel
theorem dX7_init_43 : decode cX7_init 43 = .ok (.iastore, 1) := by decide +kernel
theorem dX7_init_44 : decode cX7_init 44 = .ok (.dup, 1) := by decide +kernel
theorem dX7_init_45 : decode cX7_init 45 = .ok (.iconst 2, 1) := by decide +kernel
theorem dX7_init_46 : decode cX7_init 46 = .ok (.bipush (-2), 2) := by decide +kernel
theorem dX7_init_48 : decode cX7_init 48 = .ok (.iastore, 1) := by decide +kernel
theorem dX7_init_49 : decode cX7_init 49 = .ok (.dup, 1) := by decide +kernel
theorem dX7_init_50 : decode cX7_init 50 = .ok (.iconst 3, 1) := by decide +kernel
theorem dX7_init_51 : decode cX7_init 51 = .ok (.bipush (-2), 2) := by decide +kernel
theorem dX7_init_53 : decode cX7_init 53 = .ok (.iastore, 1) := by decide +kernel
theorem dX7_init_54 : decode cX7_init 54 = .ok (.putfield 24, 3) := by decide +kernel
theorem dX7_init_57 : decode cX7_init 57 = .ok (.aload_n 0, 1) := by decide +kernel
theorem dX7_init_58 : decode cX7_init 58 = .ok (.aconst_null, 1) := by decide +kernel
theorem dX7_init_59 : decode cX7_init 59 = .ok (.putfield 27, 3) := by decide +kernel
theorem dX7_init_62 : decode cX7_init 62 = .ok (.aload_n 0, 1) := by decide +kernel
theorem dX7_init_63 : decode cX7_init 63 = .ok (.aconst_null, 1) := by decide +kernel
theorem dX7_init_64 : decode cX7_init 64 = .ok (.putfield 31, 3) := by decide +kernel
theorem dX7_init_67 : decode cX7_init 67 = .ok (.aload_n 0, 1) := by decide +kernel
theorem dX7_init_68 : decode cX7_init 68 = .ok (.iconst 0, 1) := by decide +kernel
theorem dX7_init_69 : decode cX7_init 69 = .ok (.putfield 34, 3) := by decide +kernel
theorem dX7_init_72 : decode cX7_init 72 = .ok (.aload_n 0, 1) := by decide +kernel
theorem dX7_init_73 : decode cX7_init 73 = .ok (.iconst 0, 1) := by decide +kernel
theorem dX7_init_74 : decode cX7_init 74 = .ok (.putfield 38, 3) := by decide +kernel
theorem dX7_init_77 : decode cX7_init 77 = .ok (.aload_n 0, 1) := by decide +kernel
theorem dX7_init_78 : decode cX7_init 78 = .ok (.iconst 0, 1) := by decide +kernel
theorem dX7_init_79 : decode cX7_init 79 = .ok (.putfield 41, 3) := by decide +kernel
theorem dX7_init_82 : decode cX7_init 82 = .ok (.aload_n 0, 1) := by decide +kernel
theorem dX7_init_83 : decode cX7_init 83 = .ok (.iconst 0, 1) := by decide +kernel
theorem dX7_init_84 : decode cX7_init 84 = .ok (.putfield 44, 3) := by decide +kernel
theorem dX7_init_87 : decode cX7_init 87 = .ok (.aload_n 0, 1) := by decide +kernel
theorem dX7_init_88 : decode cX7_init 88 = .ok (.iconst 0, 1) := by decide +kernel
theorem dX7_init_89 : decode cX7_init 89 = .ok (.putfield 47, 3) := by decide +kernel
theorem dX7_init_92 : decode cX7_init 92 = .ok (.return_, 1) := by decide +kernel
theorem dX7_add_0 : decode cX7_add 0 = .ok (.aload_n 0, 1) := by decide +kernel
theorem dX7_add_1 : decode cX7_add 1 = .ok (.getfield 38, 3) := by decide +kernel
theorem dX7_add_4 : decode cX7_add 4 = .ok (.bipush 12, 2) := by decide +kernel
theorem dX7_add_6 : decode cX7_add 6 = .ok (.if_icmp .ge 13, 3) := by decide +kernel
theorem dX7_add_9 : decode cX7_add 9 = .ok (.aload_n 0, 1) := by decide +kernel
theorem dX7_add_10 : decode cX7_add 10 = .ok (.getfield 34, 3) := by decide +kernel
theorem dX7_add_13 : decode cX7_add 13 = .ok (.sipush 400, 3) := by decide +kernel
theorem dX7_add_16 : decode cX7_add 16 = .ok (.if_icmp .lt 6, 3) := by decide +kernel
theorem dX7_add_19 : decode cX7_add 19 = .ok (.bipush (-2), 2) := by decide +kernel
theorem dX7_add_21 : decode cX7_add 21 = .ok (.ireturn, 1) := by decide +kernel
theorem dX7_add_22 : decode cX7_add 22 = .ok (.aload_n 1, 1) := by decide +kernel
theorem dX7_add_23 : decode cX7_add 23 = .ok (.invokevirtual 50, 3) := by decide +kernel
theorem dX7_add_26 : decode cX7_add 26 = .ok (.ifCond .eq 13, 3) := by decide +kernel
theorem dX7_add_29 : decode cX7_add 29 = .ok (.aload_n 0, 1) := by decide +kernel
theorem dX7_add_30 : decode cX7_add 30 = .ok (.dup, 1) := by decide +kernel
theorem dX7_add_31 : decode cX7_add 31 = .ok (.getfield 41, 3) := by decide +kernel
theorem dX7_add_34 : decode cX7_add 34 = .ok (.iconst 1, 1) := by decide +kernel
theorem dX7_add_35 : decode cX7_add 35 = .ok (.iadd, 1) := by decide +kernel
theorem dX7_add_36 : decode cX7_add 36 = .ok (.putfield 41, 3) := by decide +kernel
theorem dX7_add_39 : decode cX7_add 39 = .ok (.aload_n 0, 1) := by decide +kernel
theorem dX7_add_40 : decode cX7_add 40 = .ok (.getfield 31, 3) := by decide +kernel
theorem dX7_add_43 : decode cX7_add 43 = .ok (.astore_n 2, 1) := by decide +kernel
theorem dX7_add_44 : decode cX7_add 44 = .ok (.aload_n 2, 1) := by decide +kernel
theorem dX7_add_45 : decode cX7_add 45 = .ok (.ifnonnull 11, 3) := by decide +kernel
theorem dX7_add_48 : decode cX7_add 48 = .ok (.aload_n 0, 1) := by decide +kernel
theorem dX7_add_49 : decode cX7_add 49 = .ok (.aload_n 1, 1) := by decide +kernel
theorem dX7_add_50 : decode cX7_add 50 = .ok (.putfield 27, 3) := by decide +kernel
theorem dX7_add_53 : decode cX7_add 53 = .ok (.goto 8, 3) := by decide +kernel
theorem dX7_add_56 : decode cX7_add 56 = .ok (.aload_n 2, 1) := by decide +kernel
theorem dX7_add_57 : decode cX7_add 57 = .ok (.aload_n 1, 1) := by decide +kernel
theorem dX7_add_58 : decode cX7_add 58 = .ok (.putfield 54, 3) := by decide +kernel
theorem dX7_add_61 : decode cX7_add 61 = .ok (.aload_n 0, 1) := by decide +kernel
theorem dX7_add_62 : decode cX7_add 62 = .ok (.aload_n 1, 1) := by decide +kernel
theorem dX7_add_63 : decode cX7_add 63 = .ok (.putfield 31, 3) := by decide +kernel
theorem dX7_add_66 : decode cX7_add 66 = .ok (.aload_n 0, 1) := by decide +kernel
theorem dX7_add_67 : decode cX7_add 67 = .ok (.dup, 1) := by decide +kernel
theorem dX7_add_68 : decode cX7_add 68 = .ok (.getfield 38, 3) := by decide +kernel
theorem dX7_add_71 : decode cX7_add 71 = .ok (.iconst 1, 1) := by decide +kernel
theorem dX7_add_72 : decode cX7_add 72 = .ok (.iadd, 1) := by decide +kernel
theorem dX7_add_73 : decode cX7_add 73 = .ok (.putfield 38, 3) := by decide +kernel
theorem dX7_add_76 : decode cX7_add 76 = .ok (.aload_n 0, 1) := by decide +kernel
theorem dX7_add_77 : decode cX7_add 77 = .ok (.getfield 11, 3) := by decide +kernel
theorem dX7_add_80 : decode cX7_add 80 = .ok (.aload_n 0, 1) := by decide +kernel
theorem dX7_add_81 : decode cX7_add 81 = .ok (.getfield 34, 3) := by decide +kernel
theorem dX7_add_84 : decode cX7_add 84 = .ok (.aload_n 1, 1) := by decide +kernel
theorem dX7_add_85 : decode cX7_add 85 = .ok (.aastore, 1) := by decide +kernel
theorem dX7_add_86 : decode cX7_add 86 = .ok (.aload_n 0, 1) := by decide +kernel
theorem dX7_add_87 : decode cX7_add 87 = .ok (.dup, 1) := by decide +kernel
theorem dX7_add_88 : decode cX7_add 88 = .ok (.getfield 34, 3) := by decide +kernel
theorem dX7_add_91 : decode cX7_add 91 = .ok (.iconst 1, 1) := by decide +kernel
theorem dX7_add_92 : decode cX7_add 92 = .ok (.iadd, 1) := by decide +kernel
theorem dX7_add_93 : decode cX7_add 93 = .ok (.putfield 34, 3) := by decide +kernel
theorem dX7_add_96 : decode cX7_add 96 = .ok (.aload_n 1, 1) := by decide +kernel
theorem dX7_add_97 : decode cX7_add 97 = .ok (.getfield 57, 3) := by decide +kernel
theorem dX7_add_100 : decode cX7_add 100 = .ok (.ireturn, 1) := by decide +kernel
theorem dX7_find_0 : decode cX7_find 0 = .ok (.iload_n 1, 1) := by decide +kernel
theorem dX7_find_1 : decode cX7_find 1 = .ok (.ifCond .lt 11, 3) := by decide +kernel
theorem dX7_find_4 : decode cX7_find 4 = .ok (.iload_n 1, 1) := by decide +kernel
theorem dX7_find_5 : decode cX7_find 5 = .ok (.aload_n 0, 1) := by decide +kernel
theorem dX7_find_6 : decode cX7_find 6 = .ok (.getfield 34, 3) := by decide +kernel
theorem dX7_find_9 : decode cX7_find 9 = .ok (.if_icmp .lt 7, 3) := by decide +kernel
theorem dX7_find_12 : decode cX7_find 12 = .ok (.aconst_null, 1) := by decide +kernel
theorem dX7_find_13 : decode cX7_find 13 = .ok (.goto 9, 3) := by decide +kernel
theorem dX7_find_16 : decode cX7_find 16 = .ok (.aload_n 0, 1) := by decide +kernel
theorem dX7_find_17 : decode cX7_find 17 = .ok (.getfield 11, 3) := by decide +kernel
theorem dX7_find_20 : decode cX7_find 20 = .ok (.iload_n 1, 1) := by decide +kernel
theorem dX7_find_21 : decode cX7_find 21 = .ok (.aaload, 1) := by decide +kernel
theorem dX7_find_22 : decode cX7_find 22 = .ok (.areturn, 1) := by decide +kernel
theorem dX7_finishFences_0 : decode cX7_finishFences 0 = .ok (.iconst 0, 1) := by decide +kernel
theorem dX7_finishFences_1 : decode cX7_finishFences 1 = .ok (.istore_n 2, 1) := by decide +kernel
theorem dX7_finishFences_2 : decode cX7_finishFences 2 = .ok (.aconst_null, 1) := by decide +kernel
theorem dX7_finishFences_3 : decode cX7_finishFences 3 = .ok (.astore_n 3, 1) := by decide +kernel
theorem dX7_finishFences_4 : decode cX7_finishFences 4 = .ok (.aload_n 0, 1) := by decide +kernel
theorem dX7_finishFences_5 : decode cX7_finishFences 5 = .ok (.getfield 27, 3) := by decide +kernel
theorem dX7_finishFences_8 : decode cX7_finishFences 8 = .ok (.astore 4, 2) := by decide +kernel
theorem dX7_finishFences_10 : decode cX7_finishFences 10 = .ok (.aload 4, 2) := by decide +kernel
theorem dX7_finishFences_12 : decode cX7_finishFences 12 = .ok (.ifnull 79, 3) := by decide +kernel
theorem dX7_finishFences_15 : decode cX7_finishFences 15 = .ok (.aload 4, 2) := by decide +kernel
theorem dX7_finishFences_17 : decode cX7_finishFences 17 = .ok (.invokevirtual 50, 3) := by decide +kernel
theorem dX7_finishFences_20 : decode cX7_finishFences 20 = .ok (.ifCond .ne 19, 3) := by decide +kernel
theorem dX7_finishFences_23 : decode cX7_finishFences 23 = .ok (.iload_n 2, 1) := by decide +kernel
theorem dX7_finishFences_24 : decode cX7_finishFences 24 = .ok (.iconst 1, 1) := by decide +kernel
theorem dX7_finishFences_25 : decode cX7_finishFences 25 = .ok (.aload 4, 2) := by decide +kernel
theorem dX7_finishFences_27 : decode cX7_finishFences 27 = .ok (.getfield 60, 3) := by decide +kernel
theorem dX7_finishFences_30 : decode cX7_finishFences 30 = .ok (.ishl, 1) := by decide +kernel
theorem dX7_finishFences_31 : decode cX7_finishFences 31 = .ok (.ior, 1) := by decide +kernel
theorem dX7_finishFences_32 : decode cX7_finishFences 32 = .ok (.istore_n 2, 1) := by decide +kernel
theorem dX7_finishFences_33 : decode cX7_finishFences 33 = .ok (.aload 4, 2) := by decide +kernel
theorem dX7_finishFences_35 : decode cX7_finishFences 35 = .ok (.astore_n 3, 1) := by decide +kernel
theorem dX7_finishFences_36 : decode cX7_finishFences 36 = .ok (.goto 45, 3) := by decide +kernel
theorem dX7_finishFences_39 : decode cX7_finishFences 39 = .ok (.iload_n 2, 1) := by decide +kernel
theorem dX7_finishFences_40 : decode cX7_finishFences 40 = .ok (.aload 4, 2) := by decide +kernel
theorem dX7_finishFences_42 : decode cX7_finishFences 42 = .ok (.getfield 60, 3) := by decide +kernel
theorem dX7_finishFences_45 : decode cX7_finishFences 45 = .ok (.ishr, 1) := by decide +kernel
theorem dX7_finishFences_46 : decode cX7_finishFences 46 = .ok (.iconst 1, 1) := by decide +kernel
theorem dX7_finishFences_47 : decode cX7_finishFences 47 = .ok (.iand, 1) := by decide +kernel
theorem dX7_finishFences_48 : decode cX7_finishFences 48 = .ok (.iconst 1, 1) := by decide +kernel
theorem dX7_finishFences_49 : decode cX7_finishFences 49 = .ok (.if_icmp .ne 9, 3) := by decide +kernel
theorem dX7_finishFences_52 : decode cX7_finishFences 52 = .ok (.aload 4, 2) := by decide +kernel
theorem dX7_finishFences_54 : decode cX7_finishFences 54 = .ok (.astore_n 3, 1) := by decide +kernel
theorem dX7_finishFences_55 : decode cX7_finishFences 55 = .ok (.goto 26, 3) := by decide +kernel
theorem dX7_finishFences_58 : decode cX7_finishFences 58 = .ok (.aload 4, 2) := by decide +kernel
theorem dX7_finishFences_60 : decode cX7_finishFences 60 = .ok (.iload_n 1, 1) := by decide +kernel
theorem dX7_finishFences_61 : decode cX7_finishFences 61 = .ok (.putfield 63, 3) := by decide +kernel
theorem dX7_finishFences_64 : decode cX7_finishFences 64 = .ok (.aload_n 0, 1) := by decide +kernel
theorem dX7_finishFences_65 : decode cX7_finishFences 65 = .ok (.dup, 1) := by decide +kernel
theorem dX7_finishFences_66 : decode cX7_finishFences 66 = .ok (.getfield 41, 3) := by decide +kernel
theorem dX7_finishFences_69 : decode cX7_finishFences 69 = .ok (.iconst 1, 1) := by decide +kernel
theorem dX7_finishFences_70 : decode cX7_finishFences 70 = .ok (.isub, 1) := by decide +kernel
theorem dX7_finishFences_71 : decode cX7_finishFences 71 = .ok (.putfield 41, 3) := by decide +kernel
theorem dX7_finishFences_74 : decode cX7_finishFences 74 = .ok (.aload_n 0, 1) := by decide +kernel
theorem dX7_finishFences_75 : decode cX7_finishFences 75 = .ok (.aload 4, 2) := by decide +kernel
theorem dX7_finishFences_77 : decode cX7_finishFences 77 = .ok (.aload_n 3, 1) := by decide +kernel
theorem dX7_finishFences_78 : decode cX7_finishFences 78 = .ok (.invokevirtual 66, 3) := by decide +kernel
theorem dX7_finishFences_81 : decode cX7_finishFences 81 = .ok (.aload 4, 2) := by decide +kernel
theorem dX7_finishFences_83 : decode cX7_finishFences 83 = .ok (.getfield 54, 3) := by decide +kernel
theorem dX7_finishFences_86 : decode cX7_finishFences 86 = .ok (.astore 4, 2) := by decide +kernel
theorem dX7_finishFences_88 : decode cX7_finishFences 88 = .ok (.goto (-78), 3) := by decide +kernel
theorem dX7_finishFences_91 : decode cX7_finishFences 91 = .ok (.return_, 1) := by decide +kernel
theorem dX7_finish_0 : decode cX7_finish 0 = .ok (.iconst 1, 1) := by decide +kernel
theorem dX7_finish_1 : decode cX7_finish 1 = .ok (.istore_n 3, 1) := by decide +kernel
theorem dX7_finish_2 : decode cX7_finish 2 = .ok (.aconst_null, 1) := by decide +kernel
theorem dX7_finish_3 : decode cX7_finish 3 = .ok (.astore 4, 2) := by decide +kernel
theorem dX7_finish_5 : decode cX7_finish 5 = .ok (.aload_n 0, 1) := by decide +kernel
theorem dX7_finish_6 : decode cX7_finish 6 = .ok (.getfield 27, 3) := by decide +kernel
theorem dX7_finish_9 : decode cX7_finish 9 = .ok (.astore 5, 2) := by decide +kernel
theorem dX7_finish_11 : decode cX7_finish 11 = .ok (.aload 5, 2) := by decide +kernel
theorem dX7_finish_13 : decode cX7_finish 13 = .ok (.ifnull 41, 3) := by decide +kernel
theorem dX7_finish_16 : decode cX7_finish 16 = .ok (.aload 5, 2) := by decide +kernel
theorem dX7_finish_18 : decode cX7_finish 18 = .ok (.aload_n 1, 1) := by decide +kernel
theorem dX7_finish_19 : decode cX7_finish 19 = .ok (.if_acmp .eq 35, 3) := by decide +kernel
theorem dX7_finish_22 : decode cX7_finish 22 = .ok (.iload_n 3, 1) := by decide +kernel
theorem dX7_finish_23 : decode cX7_finish 23 = .ok (.ifCond .eq 15, 3) := by decide +kernel
theorem dX7_finish_26 : decode cX7_finish 26 = .ok (.aload 5, 2) := by decide +kernel
theorem dX7_finish_28 : decode cX7_finish 28 = .ok (.invokevirtual 50, 3) := by decide +kernel
theorem dX7_finish_31 : decode cX7_finish 31 = .ok (.ifCond .eq 7, 3) := by decide +kernel
theorem dX7_finish_34 : decode cX7_finish 34 = .ok (.iconst 1, 1) := by decide +kernel
theorem dX7_finish_35 : decode cX7_finish 35 = .ok (.goto 4, 3) := by decide +kernel
theorem dX7_finish_38 : decode cX7_finish 38 = .ok (.iconst 0, 1) := by decide +kernel
theorem dX7_finish_39 : decode cX7_finish 39 = .ok (.istore_n 3, 1) := by decide +kernel
theorem dX7_finish_40 : decode cX7_finish 40 = .ok (.aload 5, 2) := by decide +kernel
theorem dX7_finish_42 : decode cX7_finish 42 = .ok (.astore 4, 2) := by decide +kernel
theorem dX7_finish_44 : decode cX7_finish 44 = .ok (.aload 5, 2) := by decide +kernel
theorem dX7_finish_46 : decode cX7_finish 46 = .ok (.getfield 54, 3) := by decide +kernel
theorem dX7_finish_49 : decode cX7_finish 49 = .ok (.astore 5, 2) := by decide +kernel
theorem dX7_finish_51 : decode cX7_finish 51 = .ok (.goto (-40), 3) := by decide +kernel
theorem dX7_finish_54 : decode cX7_finish 54 = .ok (.aload_n 0, 1) := by decide +kernel
theorem dX7_finish_55 : decode cX7_finish 55 = .ok (.aload_n 1, 1) := by decide +kernel
theorem dX7_finish_56 : decode cX7_finish 56 = .ok (.aload 4, 2) := by decide +kernel
theorem dX7_finish_58 : decode cX7_finish 58 = .ok (.invokevirtual 66, 3) := by decide +kernel
theorem dX7_finish_61 : decode cX7_finish 61 = .ok (.aload_n 1, 1) := by decide +kernel
theorem dX7_finish_62 : decode cX7_finish 62 = .ok (.iload_n 2, 1) := by decide +kernel
theorem dX7_finish_63 : decode cX7_finish 63 = .ok (.putfield 63, 3) := by decide +kernel
theorem dX7_finish_66 : decode cX7_finish 66 = .ok (.aload_n 0, 1) := by decide +kernel
theorem dX7_finish_67 : decode cX7_finish 67 = .ok (.dup, 1) := by decide +kernel
theorem dX7_finish_68 : decode cX7_finish 68 = .ok (.getfield 44, 3) := by decide +kernel
theorem dX7_finish_71 : decode cX7_finish 71 = .ok (.iconst 1, 1) := by decide +kernel
theorem dX7_finish_72 : decode cX7_finish 72 = .ok (.iadd, 1) := by decide +kernel
theorem dX7_finish_73 : decode cX7_finish 73 = .ok (.putfield 44, 3) := by decide +kernel
theorem dX7_finish_76 : decode cX7_finish 76 = .ok (.iload_n 3, 1) := by decide +kernel
theorem dX7_finish_77 : decode cX7_finish 77 = .ok (.ifCond .eq 11, 3) := by decide +kernel
theorem dX7_finish_80 : decode cX7_finish 80 = .ok (.aload_n 0, 1) := by decide +kernel
theorem dX7_finish_81 : decode cX7_finish 81 = .ok (.aload_n 0, 1) := by decide +kernel
theorem dX7_finish_82 : decode cX7_finish 82 = .ok (.getfield 44, 3) := by decide +kernel
theorem dX7_finish_85 : decode cX7_finish 85 = .ok (.putfield 47, 3) := by decide +kernel
theorem dX7_finish_88 : decode cX7_finish 88 = .ok (.aload_n 0, 1) := by decide +kernel
theorem dX7_finish_89 : decode cX7_finish 89 = .ok (.getfield 21, 3) := by decide +kernel
theorem dX7_finish_92 : decode cX7_finish 92 = .ok (.aload_n 1, 1) := by decide +kernel
theorem dX7_finish_93 : decode cX7_finish 93 = .ok (.getfield 60, 3) := by decide +kernel
theorem dX7_finish_96 : decode cX7_finish 96 = .ok (.dup2, 1) := by decide +kernel
theorem dX7_finish_97 : decode cX7_finish 97 = .ok (.iaload, 1) := by decide +kernel
theorem dX7_finish_98 : decode cX7_finish 98 = .ok (.iconst 1, 1) := by decide +kernel
theorem dX7_finish_99 : decode cX7_finish 99 = .ok (.iadd, 1) := by decide +kernel
theorem dX7_finish_100 : decode cX7_finish 100 = .ok (.iastore, 1) := by decide +kernel
theorem dX7_finish_101 : decode cX7_finish 101 = .ok (.aload_n 0, 1) := by decide +kernel
theorem dX7_finish_102 : decode cX7_finish 102 = .ok (.getfield 24, 3) := by decide +kernel
theorem dX7_finish_105 : decode cX7_finish 105 = .ok (.aload_n 1, 1) := by decide +kernel
theorem dX7_finish_106 : decode cX7_finish 106 = .ok (.getfield 60, 3) := by decide +kernel
theorem dX7_finish_109 : decode cX7_finish 109 = .ok (.aload_n 0, 1) := by decide +kernel
theorem dX7_finish_110 : decode cX7_finish 110 = .ok (.getfield 24, 3) := by decide +kernel
theorem dX7_finish_113 : decode cX7_finish 113 = .ok (.aload_n 1, 1) := by decide +kernel
theorem dX7_finish_114 : decode cX7_finish 114 = .ok (.getfield 60, 3) := by decide +kernel
theorem dX7_finish_117 : decode cX7_finish 117 = .ok (.iaload, 1) := by decide +kernel
theorem dX7_finish_118 : decode cX7_finish 118 = .ok (.iload_n 2, 1) := by decide +kernel
theorem dX7_finish_119 : decode cX7_finish 119 = .ok (.aload_n 1, 1) := by decide +kernel
theorem dX7_finish_120 : decode cX7_finish 120 = .ok (.getfield 70, 3) := by decide +kernel
theorem dX7_finish_123 : decode cX7_finish 123 = .ok (.isub, 1) := by decide +kernel
theorem dX7_finish_124 : decode cX7_finish 124 = .ok (.invokestatic 71, 3) := by decide +kernel
theorem dX7_finish_127 : decode cX7_finish 127 = .ok (.iastore, 1) := by decide +kernel
theorem dX7_finish_128 : decode cX7_finish 128 = .ok (.return_, 1) := by decide +kernel
theorem dX7_unlink_0 : decode cX7_unlink 0 = .ok (.aload_n 2, 1) := by decide +kernel
theorem dX7_unlink_1 : decode cX7_unlink 1 = .ok (.ifnonnull 14, 3) := by decide +kernel
theorem dX7_unlink_4 : decode cX7_unlink 4 = .ok (.aload_n 0, 1) := by decide +kernel
theorem dX7_unlink_5 : decode cX7_unlink 5 = .ok (.aload_n 1, 1) := by decide +kernel
theorem dX7_unlink_6 : decode cX7_unlink 6 = .ok (.getfield 54, 3) := by decide +kernel
theorem dX7_unlink_9 : decode cX7_unlink 9 = .ok (.putfield 27, 3) := by decide +kernel
theorem dX7_unlink_12 : decode cX7_unlink 12 = .ok (.goto 11, 3) := by decide +kernel
theorem dX7_unlink_15 : decode cX7_unlink 15 = .ok (.aload_n 2, 1) := by decide +kernel
theorem dX7_unlink_16 : decode cX7_unlink 16 = .ok (.aload_n 1, 1) := by decide +kernel
theorem dX7_unlink_17 : decode cX7_unlink 17 = .ok (.getfield 54, 3) := by decide +kernel
theorem dX7_unlink_20 : decode cX7_unlink 20 = .ok (.putfield 54, 3) := by decide +kernel
theorem dX7_unlink_23 : decode cX7_unlink 23 = .ok (.aload_n 0, 1) := by decide +kernel
theorem dX7_unlink_24 : decode cX7_unlink 24 = .ok (.getfield 31, 3) := by decide +kernel
theorem dX7_unlink_27 : decode cX7_unlink 27 = .ok (.aload_n 1, 1) := by decide +kernel
theorem dX7_unlink_28 : decode cX7_unlink 28 = .ok (.if_acmp .ne 8, 3) := by decide +kernel
theorem dX7_unlink_31 : decode cX7_unlink 31 = .ok (.aload_n 0, 1) := by decide +kernel
theorem dX7_unlink_32 : decode cX7_unlink 32 = .ok (.aload_n 2, 1) := by decide +kernel
theorem dX7_unlink_33 : decode cX7_unlink 33 = .ok (.putfield 31, 3) := by decide +kernel
theorem dX7_unlink_36 : decode cX7_unlink 36 = .ok (.aload_n 0, 1) := by decide +kernel
theorem dX7_unlink_37 : decode cX7_unlink 37 = .ok (.dup, 1) := by decide +kernel
theorem dX7_unlink_38 : decode cX7_unlink 38 = .ok (.getfield 38, 3) := by decide +kernel
theorem dX7_unlink_41 : decode cX7_unlink 41 = .ok (.iconst 1, 1) := by decide +kernel
theorem dX7_unlink_42 : decode cX7_unlink 42 = .ok (.isub, 1) := by decide +kernel
theorem dX7_unlink_43 : decode cX7_unlink 43 = .ok (.putfield 38, 3) := by decide +kernel
theorem dX7_unlink_46 : decode cX7_unlink 46 = .ok (.return_, 1) := by decide +kernel
theorem dX7_isHeld_0 : decode cX7_isHeld 0 = .ok (.iload_n 2, 1) := by decide +kernel
theorem dX7_isHeld_1 : decode cX7_isHeld 1 = .ok (.istore_n 3, 1) := by decide +kernel
theorem dX7_isHeld_2 : decode cX7_isHeld 2 = .ok (.aload_n 0, 1) := by decide +kernel
theorem dX7_isHeld_3 : decode cX7_isHeld 3 = .ok (.getfield 27, 3) := by decide +kernel
theorem dX7_isHeld_6 : decode cX7_isHeld 6 = .ok (.astore 4, 2) := by decide +kernel
theorem dX7_isHeld_8 : decode cX7_isHeld 8 = .ok (.aload 4, 2) := by decide +kernel
theorem dX7_isHeld_10 : decode cX7_isHeld 10 = .ok (.ifnull 74, 3) := by decide +kernel
theorem dX7_isHeld_13 : decode cX7_isHeld 13 = .ok (.aload 4, 2) := by decide +kernel
theorem dX7_isHeld_15 : decode cX7_isHeld 15 = .ok (.aload_n 1, 1) := by decide +kernel
theorem dX7_isHeld_16 : decode cX7_isHeld 16 = .ok (.if_acmp .eq 68, 3) := by decide +kernel
theorem dX7_isHeld_19 : decode cX7_isHeld 19 = .ok (.aload 4, 2) := by decide +kernel
theorem dX7_isHeld_21 : decode cX7_isHeld 21 = .ok (.aload_n 1, 1) := by decide +kernel
theorem dX7_isHeld_22 : decode cX7_isHeld 22 = .ok (.invokevirtual 77, 3) := by decide +kernel
theorem dX7_isHeld_25 : decode cX7_isHeld 25 = .ok (.ifCond .eq 5, 3) := by decide +kernel
theorem dX7_isHeld_28 : decode cX7_isHeld 28 = .ok (.iconst 1, 1) := by decide +kernel
theorem dX7_isHeld_29 : decode cX7_isHeld 29 = .ok (.ireturn, 1) := by decide +kernel
theorem dX7_isHeld_30 : decode cX7_isHeld 30 = .ok (.aload 4, 2) := by decide +kernel
theorem dX7_isHeld_32 : decode cX7_isHeld 32 = .ok (.getfield 60, 3) := by decide +kernel
theorem dX7_isHeld_35 : decode cX7_isHeld 35 = .ok (.aload_n 1, 1) := by decide +kernel
theorem dX7_isHeld_36 : decode cX7_isHeld 36 = .ok (.getfield 60, 3) := by decide +kernel
theorem dX7_isHeld_39 : decode cX7_isHeld 39 = .ok (.if_icmp .ne 35, 3) := by decide +kernel
theorem dX7_isHeld_42 : decode cX7_isHeld 42 = .ok (.aload 4, 2) := by decide +kernel
theorem dX7_isHeld_44 : decode cX7_isHeld 44 = .ok (.invokevirtual 50, 3) := by decide +kernel
theorem dX7_isHeld_47 : decode cX7_isHeld 47 = .ok (.ifCond .eq 9, 3) := by decide +kernel
theorem dX7_isHeld_50 : decode cX7_isHeld 50 = .ok (.iload_n 3, 1) := by decide +kernel
theorem dX7_isHeld_51 : decode cX7_isHeld 51 = .ok (.ifCond .eq 5, 3) := by decide +kernel
theorem dX7_isHeld_54 : decode cX7_isHeld 54 = .ok (.iconst 1, 1) := by decide +kernel
theorem dX7_isHeld_55 : decode cX7_isHeld 55 = .ok (.ireturn, 1) := by decide +kernel
theorem dX7_isHeld_56 : decode cX7_isHeld 56 = .ok (.iload_n 3, 1) := by decide +kernel
theorem dX7_isHeld_57 : decode cX7_isHeld 57 = .ok (.ifCond .ne 11, 3) := by decide +kernel
theorem dX7_isHeld_60 : decode cX7_isHeld 60 = .ok (.aload 4, 2) := by decide +kernel
theorem dX7_isHeld_62 : decode cX7_isHeld 62 = .ok (.invokevirtual 50, 3) := by decide +kernel
theorem dX7_isHeld_65 : decode cX7_isHeld 65 = .ok (.ifCond .ne 7, 3) := by decide +kernel
theorem dX7_isHeld_68 : decode cX7_isHeld 68 = .ok (.iconst 1, 1) := by decide +kernel
theorem dX7_isHeld_69 : decode cX7_isHeld 69 = .ok (.goto 4, 3) := by decide +kernel
theorem dX7_isHeld_72 : decode cX7_isHeld 72 = .ok (.iconst 0, 1) := by decide +kernel
theorem dX7_isHeld_73 : decode cX7_isHeld 73 = .ok (.istore_n 3, 1) := by decide +kernel
theorem dX7_isHeld_74 : decode cX7_isHeld 74 = .ok (.aload 4, 2) := by decide +kernel
theorem dX7_isHeld_76 : decode cX7_isHeld 76 = .ok (.getfield 54, 3) := by decide +kernel
theorem dX7_isHeld_79 : decode cX7_isHeld 79 = .ok (.astore 4, 2) := by decide +kernel
theorem dX7_isHeld_81 : decode cX7_isHeld 81 = .ok (.goto (-73), 3) := by decide +kernel
theorem dX7_isHeld_84 : decode cX7_isHeld 84 = .ok (.iconst 0, 1) := by decide +kernel
theorem dX7_isHeld_85 : decode cX7_isHeld 85 = .ok (.ireturn, 1) := by decide +kernel
theorem dX7_arrange_0 : decode cX7_arrange 0 = .ok (.iload_n 1, 1) := by decide +kernel
theorem dX7_arrange_1 : decode cX7_arrange 1 = .ok (.iconst 1, 1) := by decide +kernel
theorem dX7_arrange_2 : decode cX7_arrange 2 = .ok (.if_icmp .ne 20, 3) := by decide +kernel
theorem dX7_arrange_5 : decode cX7_arrange 5 = .ok (.aload_n 0, 1) := by decide +kernel
theorem dX7_arrange_6 : decode cX7_arrange 6 = .ok (.getfield 44, 3) := by decide +kernel
theorem dX7_arrange_9 : decode cX7_arrange 9 = .ok (.aload_n 0, 1) := by decide +kernel
theorem dX7_arrange_10 : decode cX7_arrange 10 = .ok (.getfield 47, 3) := by decide +kernel
theorem dX7_arrange_13 : decode cX7_arrange 13 = .ok (.isub, 1) := by decide +kernel
theorem dX7_arrange_14 : decode cX7_arrange 14 = .ok (.iload_n 2, 1) := by decide +kernel
theorem dX7_arrange_15 : decode cX7_arrange 15 = .ok (.if_icmp .lt 7, 3) := by decide +kernel
theorem dX7_arrange_18 : decode cX7_arrange 18 = .ok (.iconst 1, 1) := by decide +kernel
theorem dX7_arrange_19 : decode cX7_arrange 19 = .ok (.goto 4, 3) := by decide +kernel
theorem dX7_arrange_22 : decode cX7_arrange 22 = .ok (.iconst 0, 1) := by decide +kernel
theorem dX7_arrange_23 : decode cX7_arrange 23 = .ok (.istore 4, 2) := by decide +kernel
theorem dX7_arrange_25 : decode cX7_arrange 25 = .ok (.aconst_null, 1) := by decide +kernel
theorem dX7_arrange_26 : decode cX7_arrange 26 = .ok (.astore 5, 2) := by decide +kernel
theorem dX7_arrange_28 : decode cX7_arrange 28 = .ok (.aload_n 0, 1) := by decide +kernel
theorem dX7_arrange_29 : decode cX7_arrange 29 = .ok (.getfield 27, 3) := by decide +kernel
theorem dX7_arrange_32 : decode cX7_arrange 32 = .ok (.astore 6, 2) := by decide +kernel
theorem dX7_arrange_34 : decode cX7_arrange 34 = .ok (.aload 6, 2) := by decide +kernel
theorem dX7_arrange_36 : decode cX7_arrange 36 = .ok (.ifnull 52, 3) := by decide +kernel
theorem dX7_arrange_39 : decode cX7_arrange 39 = .ok (.aload 6, 2) := by decide +kernel
theorem dX7_arrange_41 : decode cX7_arrange 41 = .ok (.invokevirtual 50, 3) := by decide +kernel
theorem dX7_arrange_44 : decode cX7_arrange 44 = .ok (.ifCond .ne 34, 3) := by decide +kernel
theorem dX7_arrange_47 : decode cX7_arrange 47 = .ok (.aload 6, 2) := by decide +kernel
theorem dX7_arrange_49 : decode cX7_arrange 49 = .ok (.iload 4, 2) := by decide +kernel
theorem dX7_arrange_51 : decode cX7_arrange 51 = .ok (.ifCond .eq 7, 3) := by decide +kernel
theorem dX7_arrange_54 : decode cX7_arrange 54 = .ok (.iconst 0, 1) := by decide +kernel
theorem dX7_arrange_55 : decode cX7_arrange 55 = .ok (.goto 11, 3) := by decide +kernel
theorem dX7_arrange_58 : decode cX7_arrange 58 = .ok (.aload_n 0, 1) := by decide +kernel
theorem dX7_arrange_59 : decode cX7_arrange 59 = .ok (.aload 6, 2) := by decide +kernel
theorem dX7_arrange_61 : decode cX7_arrange 61 = .ok (.iload_n 1, 1) := by decide +kernel
theorem dX7_arrange_62 : decode cX7_arrange 62 = .ok (.aload_n 3, 1) := by decide +kernel
theorem dX7_arrange_63 : decode cX7_arrange 63 = .ok (.invokevirtual 81, 3) := by decide +kernel
theorem dX7_arrange_66 : decode cX7_arrange 66 = .ok (.putfield 85, 3) := by decide +kernel
theorem dX7_arrange_69 : decode cX7_arrange 69 = .ok (.aload 5, 2) := by decide +kernel
theorem dX7_arrange_71 : decode cX7_arrange 71 = .ok (.aload 6, 2) := by decide +kernel
theorem dX7_arrange_73 : decode cX7_arrange 73 = .ok (.invokestatic 88, 3) := by decide +kernel
theorem dX7_arrange_76 : decode cX7_arrange 76 = .ok (.astore 5, 2) := by decide +kernel
theorem dX7_arrange_78 : decode cX7_arrange 78 = .ok (.aload 6, 2) := by decide +kernel
theorem dX7_arrange_80 : decode cX7_arrange 80 = .ok (.getfield 54, 3) := by decide +kernel
theorem dX7_arrange_83 : decode cX7_arrange 83 = .ok (.astore 6, 2) := by decide +kernel
theorem dX7_arrange_85 : decode cX7_arrange 85 = .ok (.goto (-51), 3) := by decide +kernel
theorem dX7_arrange_88 : decode cX7_arrange 88 = .ok (.aload 5, 2) := by decide +kernel
theorem dX7_arrange_90 : decode cX7_arrange 90 = .ok (.areturn, 1) := by decide +kernel
theorem dX7_rankOf_0 : decode cX7_rankOf 0 = .ok (.iload_n 2, 1) := by decide +kernel
theorem dX7_rankOf_1 : decode cX7_rankOf 1 = .ok (.lookupswitch 66 #[(1, 27), (2, 49)], 27) := by decide +kernel
theorem dX7_rankOf_28 : decode cX7_rankOf 28 = .ok (.aload_n 3, 1) := by decide +kernel
theorem dX7_rankOf_29 : decode cX7_rankOf 29 = .ok (.getfield 92, 3) := by decide +kernel
theorem dX7_rankOf_32 : decode cX7_rankOf 32 = .ok (.aload_n 1, 1) := by decide +kernel
theorem dX7_rankOf_33 : decode cX7_rankOf 33 = .ok (.getfield 97, 3) := by decide +kernel
theorem dX7_rankOf_36 : decode cX7_rankOf 36 = .ok (.iaload, 1) := by decide +kernel
theorem dX7_rankOf_37 : decode cX7_rankOf 37 = .ok (.aload_n 1, 1) := by decide +kernel
theorem dX7_rankOf_38 : decode cX7_rankOf 38 = .ok (.getfield 100, 3) := by decide +kernel
theorem dX7_rankOf_41 : decode cX7_rankOf 41 = .ok (.if_icmp .ne 7, 3) := by decide +kernel
theorem dX7_rankOf_44 : decode cX7_rankOf 44 = .ok (.iconst 0, 1) := by decide +kernel
theorem dX7_rankOf_45 : decode cX7_rankOf 45 = .ok (.goto 4, 3) := by decide +kernel
theorem dX7_rankOf_48 : decode cX7_rankOf 48 = .ok (.iconst 1, 1) := by decide +kernel
theorem dX7_rankOf_49 : decode cX7_rankOf 49 = .ok (.ireturn, 1) := by decide +kernel
theorem dX7_rankOf_50 : decode cX7_rankOf 50 = .ok (.aload_n 0, 1) := by decide +kernel
theorem dX7_rankOf_51 : decode cX7_rankOf 51 = .ok (.getfield 21, 3) := by decide +kernel
theorem dX7_rankOf_54 : decode cX7_rankOf 54 = .ok (.aload_n 1, 1) := by decide +kernel
theorem dX7_rankOf_55 : decode cX7_rankOf 55 = .ok (.getfield 60, 3) := by decide +kernel
theorem dX7_rankOf_58 : decode cX7_rankOf 58 = .ok (.iaload, 1) := by decide +kernel
theorem dX7_rankOf_59 : decode cX7_rankOf 59 = .ok (.iconst 4, 1) := by decide +kernel
theorem dX7_rankOf_60 : decode cX7_rankOf 60 = .ok (.imul, 1) := by decide +kernel
theorem dX7_rankOf_61 : decode cX7_rankOf 61 = .ok (.aload_n 1, 1) := by decide +kernel
theorem dX7_rankOf_62 : decode cX7_rankOf 62 = .ok (.getfield 60, 3) := by decide +kernel
theorem dX7_rankOf_65 : decode cX7_rankOf 65 = .ok (.iadd, 1) := by decide +kernel
theorem dX7_rankOf_66 : decode cX7_rankOf 66 = .ok (.ireturn, 1) := by decide +kernel
theorem dX7_rankOf_67 : decode cX7_rankOf 67 = .ok (.iconst 0, 1) := by decide +kernel
theorem dX7_rankOf_68 : decode cX7_rankOf 68 = .ok (.ireturn, 1) := by decide +kernel
theorem dX7_insert_0 : decode cX7_insert 0 = .ok (.aconst_null, 1) := by decide +kernel
theorem dX7_insert_1 : decode cX7_insert 1 = .ok (.astore_n 2, 1) := by decide +kernel
theorem dX7_insert_2 : decode cX7_insert 2 = .ok (.aload_n 0, 1) := by decide +kernel
theorem dX7_insert_3 : decode cX7_insert 3 = .ok (.astore_n 3, 1) := by decide +kernel
theorem dX7_insert_4 : decode cX7_insert 4 = .ok (.aload_n 3, 1) := by decide +kernel
theorem dX7_insert_5 : decode cX7_insert 5 = .ok (.ifnull 24, 3) := by decide +kernel
theorem dX7_insert_8 : decode cX7_insert 8 = .ok (.aload_n 3, 1) := by decide +kernel
theorem dX7_insert_9 : decode cX7_insert 9 = .ok (.getfield 85, 3) := by decide +kernel
theorem dX7_insert_12 : decode cX7_insert 12 = .ok (.aload_n 1, 1) := by decide +kernel
theorem dX7_insert_13 : decode cX7_insert 13 = .ok (.getfield 85, 3) := by decide +kernel
theorem dX7_insert_16 : decode cX7_insert 16 = .ok (.if_icmp .gt 13, 3) := by decide +kernel
theorem dX7_insert_19 : decode cX7_insert 19 = .ok (.aload_n 3, 1) := by decide +kernel
theorem dX7_insert_20 : decode cX7_insert 20 = .ok (.astore_n 2, 1) := by decide +kernel
theorem dX7_insert_21 : decode cX7_insert 21 = .ok (.aload_n 3, 1) := by decide +kernel
theorem dX7_insert_22 : decode cX7_insert 22 = .ok (.getfield 103, 3) := by decide +kernel
theorem dX7_insert_25 : decode cX7_insert 25 = .ok (.astore_n 3, 1) := by decide +kernel
theorem dX7_insert_26 : decode cX7_insert 26 = .ok (.goto (-22), 3) := by decide +kernel
theorem dX7_insert_29 : decode cX7_insert 29 = .ok (.aload_n 2, 1) := by decide +kernel
theorem dX7_insert_30 : decode cX7_insert 30 = .ok (.ifnonnull 10, 3) := by decide +kernel
theorem dX7_insert_33 : decode cX7_insert 33 = .ok (.aload_n 1, 1) := by decide +kernel
theorem dX7_insert_34 : decode cX7_insert 34 = .ok (.aload_n 0, 1) := by decide +kernel
theorem dX7_insert_35 : decode cX7_insert 35 = .ok (.putfield 103, 3) := by decide +kernel
theorem dX7_insert_38 : decode cX7_insert 38 = .ok (.aload_n 1, 1) := by decide +kernel
theorem dX7_insert_39 : decode cX7_insert 39 = .ok (.areturn, 1) := by decide +kernel
theorem dX7_insert_40 : decode cX7_insert 40 = .ok (.aload_n 1, 1) := by decide +kernel
theorem dX7_insert_41 : decode cX7_insert 41 = .ok (.aload_n 2, 1) := by decide +kernel
theorem dX7_insert_42 : decode cX7_insert 42 = .ok (.getfield 103, 3) := by decide +kernel
theorem dX7_insert_45 : decode cX7_insert 45 = .ok (.putfield 103, 3) := by decide +kernel
theorem dX7_insert_48 : decode cX7_insert 48 = .ok (.aload_n 2, 1) := by decide +kernel
theorem dX7_insert_49 : decode cX7_insert 49 = .ok (.aload_n 1, 1) := by decide +kernel
theorem dX7_insert_50 : decode cX7_insert 50 = .ok (.putfield 103, 3) := by decide +kernel
theorem dX7_insert_53 : decode cX7_insert 53 = .ok (.aload_n 0, 1) := by decide +kernel
theorem dX7_insert_54 : decode cX7_insert 54 = .ok (.areturn, 1) := by decide +kernel
theorem dX7_isAsIfInTurn_0 : decode cX7_isAsIfInTurn 0 = .ok (.aload_n 0, 1) := by decide +kernel
theorem dX7_isAsIfInTurn_1 : decode cX7_isAsIfInTurn 1 = .ok (.getfield 17, 3) := by decide +kernel
theorem dX7_isAsIfInTurn_4 : decode cX7_isAsIfInTurn 4 = .ok (.iconst 0, 1) := by decide +kernel
theorem dX7_isAsIfInTurn_5 : decode cX7_isAsIfInTurn 5 = .ok (.invokestatic 106, 3) := by decide +kernel
theorem dX7_isAsIfInTurn_8 : decode cX7_isAsIfInTurn 8 = .ok (.iconst 0, 1) := by decide +kernel
theorem dX7_isAsIfInTurn_9 : decode cX7_isAsIfInTurn 9 = .ok (.istore_n 2, 1) := by decide +kernel
theorem dX7_isAsIfInTurn_10 : decode cX7_isAsIfInTurn 10 = .ok (.iload_n 2, 1) := by decide +kernel
theorem dX7_isAsIfInTurn_11 : decode cX7_isAsIfInTurn 11 = .ok (.aload_n 0, 1) := by decide +kernel
theorem dX7_isAsIfInTurn_12 : decode cX7_isAsIfInTurn 12 = .ok (.getfield 34, 3) := by decide +kernel
theorem dX7_isAsIfInTurn_15 : decode cX7_isAsIfInTurn 15 = .ok (.if_icmp .ge 75, 3) := by decide +kernel
theorem dX7_isAsIfInTurn_18 : decode cX7_isAsIfInTurn 18 = .ok (.aload_n 0, 1) := by decide +kernel
theorem dX7_isAsIfInTurn_19 : decode cX7_isAsIfInTurn 19 = .ok (.getfield 11, 3) := by decide +kernel
theorem dX7_isAsIfInTurn_22 : decode cX7_isAsIfInTurn 22 = .ok (.iload_n 2, 1) := by decide +kernel
theorem dX7_isAsIfInTurn_23 : decode cX7_isAsIfInTurn 23 = .ok (.aaload, 1) := by decide +kernel
theorem dX7_isAsIfInTurn_24 : decode cX7_isAsIfInTurn 24 = .ok (.astore_n 3, 1) := by decide +kernel
theorem dX7_isAsIfInTurn_25 : decode cX7_isAsIfInTurn 25 = .ok (.aload_n 3, 1) := by decide +kernel
theorem dX7_isAsIfInTurn_26 : decode cX7_isAsIfInTurn 26 = .ok (.ifnull 58, 3) := by decide +kernel
theorem dX7_isAsIfInTurn_29 : decode cX7_isAsIfInTurn 29 = .ok (.aload_n 3, 1) := by decide +kernel
theorem dX7_isAsIfInTurn_30 : decode cX7_isAsIfInTurn 30 = .ok (.getfield 63, 3) := by decide +kernel
theorem dX7_isAsIfInTurn_33 : decode cX7_isAsIfInTurn 33 = .ok (.ifCond .eq 51, 3) := by decide +kernel
theorem dX7_isAsIfInTurn_36 : decode cX7_isAsIfInTurn 36 = .ok (.aload_n 3, 1) := by decide +kernel
theorem dX7_isAsIfInTurn_37 : decode cX7_isAsIfInTurn 37 = .ok (.invokevirtual 50, 3) := by decide +kernel
theorem dX7_isAsIfInTurn_40 : decode cX7_isAsIfInTurn 40 = .ok (.ifCond .ne 44, 3) := by decide +kernel
theorem dX7_isAsIfInTurn_43 : decode cX7_isAsIfInTurn 43 = .ok (.aload_n 0, 1) := by decide +kernel
theorem dX7_isAsIfInTurn_44 : decode cX7_isAsIfInTurn 44 = .ok (.getfield 17, 3) := by decide +kernel
theorem dX7_isAsIfInTurn_47 : decode cX7_isAsIfInTurn 47 = .ok (.aload_n 3, 1) := by decide +kernel
theorem dX7_isAsIfInTurn_48 : decode cX7_isAsIfInTurn 48 = .ok (.getfield 112, 3) := by decide +kernel
theorem dX7_isAsIfInTurn_51 : decode cX7_isAsIfInTurn 51 = .ok (.iaload, 1) := by decide +kernel
theorem dX7_isAsIfInTurn_52 : decode cX7_isAsIfInTurn 52 = .ok (.istore 4, 2) := by decide +kernel
theorem dX7_isAsIfInTurn_54 : decode cX7_isAsIfInTurn 54 = .ok (.aload_n 3, 1) := by decide +kernel
theorem dX7_isAsIfInTurn_55 : decode cX7_isAsIfInTurn 55 = .ok (.iload 4, 2) := by decide +kernel
theorem dX7_isAsIfInTurn_57 : decode cX7_isAsIfInTurn 57 = .ok (.invokevirtual 115, 3) := by decide +kernel
theorem dX7_isAsIfInTurn_60 : decode cX7_isAsIfInTurn 60 = .ok (.aload_n 3, 1) := by decide +kernel
theorem dX7_isAsIfInTurn_61 : decode cX7_isAsIfInTurn 61 = .ok (.getfield 119, 3) := by decide +kernel
theorem dX7_isAsIfInTurn_64 : decode cX7_isAsIfInTurn 64 = .ok (.if_icmp .eq 5, 3) := by decide +kernel
theorem dX7_isAsIfInTurn_67 : decode cX7_isAsIfInTurn 67 = .ok (.iconst 0, 1) := by decide +kernel
theorem dX7_isAsIfInTurn_68 : decode cX7_isAsIfInTurn 68 = .ok (.ireturn, 1) := by decide +kernel
theorem dX7_isAsIfInTurn_69 : decode cX7_isAsIfInTurn 69 = .ok (.aload_n 0, 1) := by decide +kernel
theorem dX7_isAsIfInTurn_70 : decode cX7_isAsIfInTurn 70 = .ok (.getfield 17, 3) := by decide +kernel
theorem dX7_isAsIfInTurn_73 : decode cX7_isAsIfInTurn 73 = .ok (.aload_n 3, 1) := by decide +kernel
theorem dX7_isAsIfInTurn_74 : decode cX7_isAsIfInTurn 74 = .ok (.getfield 112, 3) := by decide +kernel
theorem dX7_isAsIfInTurn_77 : decode cX7_isAsIfInTurn 77 = .ok (.aload_n 3, 1) := by decide +kernel
theorem dX7_isAsIfInTurn_78 : decode cX7_isAsIfInTurn 78 = .ok (.iload 4, 2) := by decide +kernel
theorem dX7_isAsIfInTurn_80 : decode cX7_isAsIfInTurn 80 = .ok (.invokevirtual 122, 3) := by decide +kernel
theorem dX7_isAsIfInTurn_83 : decode cX7_isAsIfInTurn 83 = .ok (.iastore, 1) := by decide +kernel
theorem dX7_isAsIfInTurn_84 : decode cX7_isAsIfInTurn 84 = .ok (.iinc 2 1, 3) := by decide +kernel
theorem dX7_isAsIfInTurn_87 : decode cX7_isAsIfInTurn 87 = .ok (.goto (-77), 3) := by decide +kernel
theorem dX7_isAsIfInTurn_90 : decode cX7_isAsIfInTurn 90 = .ok (.iconst 0, 1) := by decide +kernel
theorem dX7_isAsIfInTurn_91 : decode cX7_isAsIfInTurn 91 = .ok (.istore_n 2, 1) := by decide +kernel
theorem dX7_isAsIfInTurn_92 : decode cX7_isAsIfInTurn 92 = .ok (.iload_n 2, 1) := by decide +kernel
theorem dX7_isAsIfInTurn_93 : decode cX7_isAsIfInTurn 93 = .ok (.aload_n 0, 1) := by decide +kernel
theorem dX7_isAsIfInTurn_94 : decode cX7_isAsIfInTurn 94 = .ok (.getfield 34, 3) := by decide +kernel
theorem dX7_isAsIfInTurn_97 : decode cX7_isAsIfInTurn 97 = .ok (.if_icmp .ge 47, 3) := by decide +kernel
theorem dX7_isAsIfInTurn_100 : decode cX7_isAsIfInTurn 100 = .ok (.aload_n 0, 1) := by decide +kernel
theorem dX7_isAsIfInTurn_101 : decode cX7_isAsIfInTurn 101 = .ok (.getfield 11, 3) := by decide +kernel
theorem dX7_isAsIfInTurn_104 : decode cX7_isAsIfInTurn 104 = .ok (.iload_n 2, 1) := by decide +kernel
theorem dX7_isAsIfInTurn_105 : decode cX7_isAsIfInTurn 105 = .ok (.aaload, 1) := by decide +kernel
theorem dX7_isAsIfInTurn_106 : decode cX7_isAsIfInTurn 106 = .ok (.astore_n 3, 1) := by decide +kernel
theorem dX7_isAsIfInTurn_107 : decode cX7_isAsIfInTurn 107 = .ok (.aload_n 3, 1) := by decide +kernel
theorem dX7_isAsIfInTurn_108 : decode cX7_isAsIfInTurn 108 = .ok (.ifnull 30, 3) := by decide +kernel
theorem dX7_isAsIfInTurn_111 : decode cX7_isAsIfInTurn 111 = .ok (.aload_n 3, 1) := by decide +kernel
theorem dX7_isAsIfInTurn_112 : decode cX7_isAsIfInTurn 112 = .ok (.invokevirtual 50, 3) := by decide +kernel
theorem dX7_isAsIfInTurn_115 : decode cX7_isAsIfInTurn 115 = .ok (.ifCond .ne 23, 3) := by decide +kernel
theorem dX7_isAsIfInTurn_118 : decode cX7_isAsIfInTurn 118 = .ok (.aload_n 0, 1) := by decide +kernel
theorem dX7_isAsIfInTurn_119 : decode cX7_isAsIfInTurn 119 = .ok (.getfield 17, 3) := by decide +kernel
theorem dX7_isAsIfInTurn_122 : decode cX7_isAsIfInTurn 122 = .ok (.aload_n 3, 1) := by decide +kernel
theorem dX7_isAsIfInTurn_123 : decode cX7_isAsIfInTurn 123 = .ok (.getfield 112, 3) := by decide +kernel
theorem dX7_isAsIfInTurn_126 : decode cX7_isAsIfInTurn 126 = .ok (.iaload, 1) := by decide +kernel
theorem dX7_isAsIfInTurn_127 : decode cX7_isAsIfInTurn 127 = .ok (.aload_n 1, 1) := by decide +kernel
theorem dX7_isAsIfInTurn_128 : decode cX7_isAsIfInTurn 128 = .ok (.aload_n 3, 1) := by decide +kernel
theorem dX7_isAsIfInTurn_129 : decode cX7_isAsIfInTurn 129 = .ok (.getfield 112, 3) := by decide +kernel
theorem dX7_isAsIfInTurn_132 : decode cX7_isAsIfInTurn 132 = .ok (.iaload, 1) := by decide +kernel
theorem dX7_isAsIfInTurn_133 : decode cX7_isAsIfInTurn 133 = .ok (.if_icmp .eq 5, 3) := by decide +kernel
theorem dX7_isAsIfInTurn_136 : decode cX7_isAsIfInTurn 136 = .ok (.iconst 0, 1) := by decide +kernel
theorem dX7_isAsIfInTurn_137 : decode cX7_isAsIfInTurn 137 = .ok (.ireturn, 1) := by decide +kernel
theorem dX7_isAsIfInTurn_138 : decode cX7_isAsIfInTurn 138 = .ok (.iinc 2 1, 3) := by decide +kernel
theorem dX7_isAsIfInTurn_141 : decode cX7_isAsIfInTurn 141 = .ok (.goto (-49), 3) := by decide +kernel
theorem dX7_isAsIfInTurn_144 : decode cX7_isAsIfInTurn 144 = .ok (.iconst 1, 1) := by decide +kernel
theorem dX7_isAsIfInTurn_145 : decode cX7_isAsIfInTurn 145 = .ok (.ireturn, 1) := by decide +kernel
theorem dX8_init_0 : decode cX8_init 0 = .ok (.aload_n 0, 1) := by decide +kernel
theorem dX8_init_1 : decode cX8_init 1 = .ok (.invokespecial 3, 3) := by decide +kernel
theorem dX8_init_4 : decode cX8_init 4 = .ok (.aload_n 0, 1) := by decide +kernel
theorem dX8_init_5 : decode cX8_init 5 = .ok (.aconst_null, 1) := by decide +kernel
theorem dX8_init_6 : decode cX8_init 6 = .ok (.putfield 9, 3) := by decide +kernel
theorem dX8_init_9 : decode cX8_init 9 = .ok (.aload_n 0, 1) := by decide +kernel
theorem dX8_init_10 : decode cX8_init 10 = .ok (.aconst_null, 1) := by decide +kernel
theorem dX8_init_11 : decode cX8_init 11 = .ok (.putfield 15, 3) := by decide +kernel
theorem dX8_init_14 : decode cX8_init 14 = .ok (.aload_n 0, 1) := by decide +kernel
theorem dX8_init_15 : decode cX8_init 15 = .ok (.iconst 0, 1) := by decide +kernel
theorem dX8_init_16 : decode cX8_init 16 = .ok (.putfield 19, 3) := by decide +kernel
theorem dX8_init_19 : decode cX8_init 19 = .ok (.return_, 1) := by decide +kernel
theorem dX8_hold_0 : decode cX8_hold 0 = .ok (.aload_n 0, 1) := by decide +kernel
theorem dX8_hold_1 : decode cX8_hold 1 = .ok (.aload_n 1, 1) := by decide +kernel
theorem dX8_hold_2 : decode cX8_hold 2 = .ok (.putfield 9, 3) := by decide +kernel
theorem dX8_hold_5 : decode cX8_hold 5 = .ok (.aload_n 0, 1) := by decide +kernel
theorem dX8_hold_6 : decode cX8_hold 6 = .ok (.aload_n 2, 1) := by decide +kernel
theorem dX8_hold_7 : decode cX8_hold 7 = .ok (.putfield 15, 3) := by decide +kernel
theorem dX8_hold_10 : decode cX8_hold 10 = .ok (.aload_n 0, 1) := by decide +kernel
theorem dX8_hold_11 : decode cX8_hold 11 = .ok (.iload_n 3, 1) := by decide +kernel
theorem dX8_hold_12 : decode cX8_hold 12 = .ok (.putfield 19, 3) := by decide +kernel
theorem dX8_hold_15 : decode cX8_hold 15 = .ok (.return_, 1) := by decide +kernel
theorem dX8_isEmpty_0 : decode cX8_isEmpty 0 = .ok (.aload_n 0, 1) := by decide +kernel
theorem dX8_isEmpty_1 : decode cX8_isEmpty 1 = .ok (.getfield 9, 3) := by decide +kernel
theorem dX8_isEmpty_4 : decode cX8_isEmpty 4 = .ok (.ifnonnull 14, 3) := by decide +kernel
theorem dX8_isEmpty_7 : decode cX8_isEmpty 7 = .ok (.aload_n 0, 1) := by decide +kernel
theorem dX8_isEmpty_8 : decode cX8_isEmpty 8 = .ok (.getfield 15, 3) := by decide +kernel
theorem dX8_isEmpty_11 : decode cX8_isEmpty 11 = .ok (.ifnonnull 7, 3) := by decide +kernel
theorem dX8_isEmpty_14 : decode cX8_isEmpty 14 = .ok (.iconst 1, 1) := by decide +kernel
theorem dX8_isEmpty_15 : decode cX8_isEmpty 15 = .ok (.goto 4, 3) := by decide +kernel
theorem dX8_isEmpty_18 : decode cX8_isEmpty 18 = .ok (.iconst 0, 1) := by decide +kernel
theorem dX8_isEmpty_19 : decode cX8_isEmpty 19 = .ok (.ireturn, 1) := by decide +kernel
theorem dX8_refusalWithoutAsk_0 : decode cX8_refusalWithoutAsk 0 = .ok (.aload_n 0, 1) := by decide +kernel
theorem dX8_refusalWithoutAsk_1 : decode cX8_refusalWithoutAsk 1 = .ok (.invokevirtual 23, 3) := by decide +kernel
theorem dX8_refusalWithoutAsk_4 : decode cX8_refusalWithoutAsk 4 = .ok (.ifCond .eq 8, 3) := by decide +kernel
theorem dX8_refusalWithoutAsk_7 : decode cX8_refusalWithoutAsk 7 = .ok (.bipush (-11), 2) := by decide +kernel
theorem dX8_refusalWithoutAsk_9 : decode cX8_refusalWithoutAsk 9 = .ok (.goto 5, 3) := by decide +kernel
theorem dX8_refusalWithoutAsk_12 : decode cX8_refusalWithoutAsk 12 = .ok (.bipush (-12), 2) := by decide +kernel
theorem dX8_refusalWithoutAsk_14 : decode cX8_refusalWithoutAsk 14 = .ok (.ireturn, 1) := by decide +kernel
theorem dX9_init_0 : decode cX9_init 0 = .ok (.aload_n 0, 1) := by decide +kernel
theorem dX9_init_1 : decode cX9_init 1 = .ok (.iload_n 1, 1) := by decide +kernel
theorem dX9_init_2 : decode cX9_init 2 = .ok (.iload_n 2, 1) := by decide +kernel
theorem dX9_init_3 : decode cX9_init 3 = .ok (.iload_n 3, 1) := by decide +kernel
theorem dX9_init_4 : decode cX9_init 4 = .ok (.iload 4, 2) := by decide +kernel
theorem dX9_init_6 : decode cX9_init 6 = .ok (.iload 5, 2) := by decide +kernel
theorem dX9_init_8 : decode cX9_init 8 = .ok (.invokespecial 3, 3) := by decide +kernel
theorem dX9_init_11 : decode cX9_init 11 = .ok (.return_, 1) := by decide +kernel
theorem dX9_kind_0 : decode cX9_kind 0 = .ok (.iconst 3, 1) := by decide +kernel
theorem dX9_kind_1 : decode cX9_kind 1 = .ok (.ireturn, 1) := by decide +kernel
theorem dX9_heft_0 : decode cX9_heft 0 = .ok (.aload_n 0, 1) := by decide +kernel
theorem dX9_heft_1 : decode cX9_heft 1 = .ok (.invokespecial 9, 3) := by decide +kernel
theorem dX9_heft_4 : decode cX9_heft 4 = .ok (.iconst 2, 1) := by decide +kernel
theorem dX9_heft_5 : decode cX9_heft 5 = .ok (.imul, 1) := by decide +kernel
theorem dX9_heft_6 : decode cX9_heft 6 = .ok (.iconst 1, 1) := by decide +kernel
theorem dX9_heft_7 : decode cX9_heft 7 = .ok (.iadd, 1) := by decide +kernel
theorem dX9_heft_8 : decode cX9_heft 8 = .ok (.ireturn, 1) := by decide +kernel
theorem dX9_answerFrom_0 : decode cX9_answerFrom 0 = .ok (.iload_n 1, 1) := by decide +kernel
theorem dX9_answerFrom_1 : decode cX9_answerFrom 1 = .ok (.ireturn, 1) := by decide +kernel
theorem dX10_init_0 : decode cX10_init 0 = .ok (.aload_n 0, 1) := by decide +kernel
theorem dX10_init_1 : decode cX10_init 1 = .ok (.iload_n 1, 1) := by decide +kernel
theorem dX10_init_2 : decode cX10_init 2 = .ok (.iload_n 2, 1) := by decide +kernel
theorem dX10_init_3 : decode cX10_init 3 = .ok (.iload_n 3, 1) := by decide +kernel
theorem dX10_init_4 : decode cX10_init 4 = .ok (.iload 4, 2) := by decide +kernel
theorem dX10_init_6 : decode cX10_init 6 = .ok (.invokespecial 3, 3) := by decide +kernel
theorem dX10_init_9 : decode cX10_init 9 = .ok (.aload_n 0, 1) := by decide +kernel
theorem dX10_init_10 : decode cX10_init 10 = .ok (.iload 5, 2) := by decide +kernel
theorem dX10_init_12 : decode cX10_init 12 = .ok (.putfield 9, 3) := by decide +kernel
theorem dX10_init_15 : decode cX10_init 15 = .ok (.return_, 1) := by decide +kernel
theorem dX10_kind_0 : decode cX10_kind 0 = .ok (.iconst 1, 1) := by decide +kernel
theorem dX10_kind_1 : decode cX10_kind 1 = .ok (.ireturn, 1) := by decide +kernel
theorem dX10_heft_0 : decode cX10_heft 0 = .ok (.aload_n 0, 1) := by decide +kernel
theorem dX10_heft_1 : decode cX10_heft 1 = .ok (.invokespecial 15, 3) := by decide +kernel
theorem dX10_heft_4 : decode cX10_heft 4 = .ok (.bipush 20, 2) := by decide +kernel
theorem dX10_heft_6 : decode cX10_heft 6 = .ok (.iadd, 1) := by decide +kernel
theorem dX10_heft_7 : decode cX10_heft 7 = .ok (.ireturn, 1) := by decide +kernel
theorem dX10_octetAfter_0 : decode cX10_octetAfter 0 = .ok (.aload_n 0, 1) := by decide +kernel
theorem dX10_octetAfter_1 : decode cX10_octetAfter 1 = .ok (.getfield 9, 3) := by decide +kernel
theorem dX10_octetAfter_4 : decode cX10_octetAfter 4 = .ok (.ireturn, 1) := by decide +kernel
theorem dJ9_max_7cf53_0 : decode cJ9_max_7cf53 0 = .ok (.iload_n 0, 1) := by decide +kernel
theorem dJ9_max_7cf53_1 : decode cJ9_max_7cf53 1 = .ok (.iload_n 1, 1) := by decide +kernel
theorem dJ9_max_7cf53_2 : decode cJ9_max_7cf53 2 = .ok (.if_icmp .lt 7, 3) := by decide +kernel
theorem dJ9_max_7cf53_5 : decode cJ9_max_7cf53 5 = .ok (.iload_n 0, 1) := by decide +kernel
theorem dJ9_max_7cf53_6 : decode cJ9_max_7cf53 6 = .ok (.goto 4, 3) := by decide +kernel
theorem dJ9_max_7cf53_9 : decode cJ9_max_7cf53 9 = .ok (.iload_n 1, 1) := by decide +kernel
theorem dJ9_max_7cf53_10 : decode cJ9_max_7cf53 10 = .ok (.ireturn, 1) := by decide +kernel
theorem dJ9_min_7cf53_0 : decode cJ9_min_7cf53 0 = .ok (.iload_n 0, 1) := by decide +kernel
theorem dJ9_min_7cf53_1 : decode cJ9_min_7cf53 1 = .ok (.iload_n 1, 1) := by decide +kernel
theorem dJ9_min_7cf53_2 : decode cJ9_min_7cf53 2 = .ok (.if_icmp .gt 7, 3) := by decide +kernel
theorem dJ9_min_7cf53_5 : decode cJ9_min_7cf53 5 = .ok (.iload_n 0, 1) := by decide +kernel
theorem dJ9_min_7cf53_6 : decode cJ9_min_7cf53 6 = .ok (.goto 4, 3) := by decide +kernel
theorem dJ9_min_7cf53_9 : decode cJ9_min_7cf53 9 = .ok (.iload_n 1, 1) := by decide +kernel
theorem dJ9_min_7cf53_10 : decode cJ9_min_7cf53 10 = .ok (.ireturn, 1) := by decide +kernel
theorem dJ7_fill_53178_0 : decode cJ7_fill_53178 0 = .ok (.iconst 0, 1) := by decide +kernel
theorem dJ7_fill_53178_1 : decode cJ7_fill_53178 1 = .ok (.istore_n 2, 1) := by decide +kernel
theorem dJ7_fill_53178_2 : decode cJ7_fill_53178 2 = .ok (.aload_n 0, 1) := by decide +kernel
theorem dJ7_fill_53178_3 : decode cJ7_fill_53178 3 = .ok (.arraylength, 1) := by decide +kernel
theorem dJ7_fill_53178_4 : decode cJ7_fill_53178 4 = .ok (.istore_n 3, 1) := by decide +kernel
theorem dJ7_fill_53178_5 : decode cJ7_fill_53178 5 = .ok (.iload_n 2, 1) := by decide +kernel
theorem dJ7_fill_53178_6 : decode cJ7_fill_53178 6 = .ok (.iload_n 3, 1) := by decide +kernel
theorem dJ7_fill_53178_7 : decode cJ7_fill_53178 7 = .ok (.if_icmp .ge 13, 3) := by decide +kernel
theorem dJ7_fill_53178_10 : decode cJ7_fill_53178 10 = .ok (.aload_n 0, 1) := by decide +kernel
theorem dJ7_fill_53178_11 : decode cJ7_fill_53178 11 = .ok (.iload_n 2, 1) := by decide +kernel
theorem dJ7_fill_53178_12 : decode cJ7_fill_53178 12 = .ok (.iload_n 1, 1) := by decide +kernel
theorem dJ7_fill_53178_13 : decode cJ7_fill_53178 13 = .ok (.iastore, 1) := by decide +kernel
theorem dJ7_fill_53178_14 : decode cJ7_fill_53178 14 = .ok (.iinc 2 1, 3) := by decide +kernel
theorem dJ7_fill_53178_17 : decode cJ7_fill_53178 17 = .ok (.goto (-12), 3) := by decide +kernel
theorem dJ7_fill_53178_20 : decode cJ7_fill_53178 20 = .ok (.return_, 1) := by decide +kernel
theorem dJ7_copyOf_59c91_0 : decode cJ7_copyOf_59c91 0 = .ok (.iload_n 1, 1) := by decide +kernel
theorem dJ7_copyOf_59c91_1 : decode cJ7_copyOf_59c91 1 = .ok (.aload_n 0, 1) := by decide +kernel
theorem dJ7_copyOf_59c91_2 : decode cJ7_copyOf_59c91 2 = .ok (.arraylength, 1) := by decide +kernel
theorem dJ7_copyOf_59c91_3 : decode cJ7_copyOf_59c91 3 = .ok (.if_icmp .ne 11, 3) := by decide +kernel
theorem dJ7_copyOf_59c91_6 : decode cJ7_copyOf_59c91 6 = .ok (.aload_n 0, 1) := by decide +kernel
theorem dJ7_copyOf_59c91_7 : decode cJ7_copyOf_59c91 7 = .ok (.invokevirtual 316, 3) := by decide +kernel
theorem dJ7_copyOf_59c91_10 : decode cJ7_copyOf_59c91 10 = .ok (.checkcast 317, 3) := by decide +kernel
theorem dJ7_copyOf_59c91_13 : decode cJ7_copyOf_59c91 13 = .ok (.areturn, 1) := by decide +kernel
theorem dJ7_copyOf_59c91_14 : decode cJ7_copyOf_59c91 14 = .ok (.iload_n 1, 1) := by decide +kernel
theorem dJ7_copyOf_59c91_15 : decode cJ7_copyOf_59c91 15 = .ok (.newarray .int, 2) := by decide +kernel
theorem dJ7_copyOf_59c91_17 : decode cJ7_copyOf_59c91 17 = .ok (.astore_n 2, 1) := by decide +kernel
theorem dJ7_copyOf_59c91_18 : decode cJ7_copyOf_59c91 18 = .ok (.aload_n 0, 1) := by decide +kernel
theorem dJ7_copyOf_59c91_19 : decode cJ7_copyOf_59c91 19 = .ok (.iconst 0, 1) := by decide +kernel
theorem dJ7_copyOf_59c91_20 : decode cJ7_copyOf_59c91 20 = .ok (.aload_n 2, 1) := by decide +kernel
theorem dJ7_copyOf_59c91_21 : decode cJ7_copyOf_59c91 21 = .ok (.iconst 0, 1) := by decide +kernel
theorem dJ7_copyOf_59c91_22 : decode cJ7_copyOf_59c91 22 = .ok (.aload_n 0, 1) := by decide +kernel
theorem dJ7_copyOf_59c91_23 : decode cJ7_copyOf_59c91 23 = .ok (.arraylength, 1) := by decide +kernel
theorem dJ7_copyOf_59c91_24 : decode cJ7_copyOf_59c91 24 = .ok (.iload_n 1, 1) := by decide +kernel
theorem dJ7_copyOf_59c91_25 : decode cJ7_copyOf_59c91 25 = .ok (.invokestatic 304, 3) := by decide +kernel
theorem dJ7_copyOf_59c91_28 : decode cJ7_copyOf_59c91 28 = .ok (.invokestatic 150, 3) := by decide +kernel
theorem dJ7_copyOf_59c91_31 : decode cJ7_copyOf_59c91 31 = .ok (.aload_n 2, 1) := by decide +kernel
theorem dJ7_copyOf_59c91_32 : decode cJ7_copyOf_59c91 32 = .ok (.areturn, 1) := by decide +kernel
