/-! rows that decode each instruction -/
theorem dX0_init_0 : decode cX0_init 0 = .ok (.aload_n 0, 1) := by decide +kernel
theorem dX0_init_1 : decode cX0_init 1 = .ok (.invokespecial 3, 3) := by decide +kernel
theorem dX0_init_4 : decode cX0_init 4 = .ok (.aload_n 0, 1) := by decide +kernel
theorem dX0_init_5 : decode cX0_init 5 = .ok (.iconst 0, 1) := by decide +kernel
theorem dX0_init_6 : decode cX0_init 6 = .ok (.putfield 9, 3) := by decide +kernel
theorem dX0_init_9 : decode cX0_init 9 = .ok (.aload_n 0, 1) := by decide +kernel
theorem dX0_init_10 : decode cX0_init 10 = .ok (.iconst 0, 1) := by decide +kernel
theorem dX0_init_11 : decode cX0_init 11 = .ok (.putfield 15, 3) := by decide +kernel
theorem dX0_init_14 : decode cX0_init 14 = .ok (.aload_n 0, 1) := by decide +kernel
theorem dX0_init_15 : decode cX0_init 15 = .ok (.iconst 0, 1) := by decide +kernel
theorem dX0_init_16 : decode cX0_init 16 = .ok (.putfield 18, 3) := by decide +kernel
theorem dX0_init_19 : decode cX0_init 19 = .ok (.aload_n 0, 1) := by decide +kernel
theorem dX0_init_20 : decode cX0_init 20 = .ok (.aload_n 1, 1) := by decide +kernel
theorem dX0_init_21 : decode cX0_init 21 = .ok (.putfield 21, 3) := by decide +kernel
theorem dX0_init_24 : decode cX0_init 24 = .ok (.aload_n 0, 1) := by decide +kernel
theorem dX0_init_25 : decode cX0_init 25 = .ok (.aload_n 2, 1) := by decide +kernel
theorem dX0_init_26 : decode cX0_init 26 = .ok (.putfield 25, 3) := by decide +kernel
theorem dX0_init_29 : decode cX0_init 29 = .ok (.return_, 1) := by decide +kernel
theorem dX0_read_0 : decode cX0_read 0 = .ok (.aload_n 0, 1) := by decide +kernel
theorem dX0_read_1 : decode cX0_read 1 = .ok (.iconst 0, 1) := by decide +kernel
theorem dX0_read_2 : decode cX0_read 2 = .ok (.putfield 15, 3) := by decide +kernel
theorem dX0_read_5 : decode cX0_read 5 = .ok (.iconst 1, 1) := by decide +kernel
theorem dX0_read_6 : decode cX0_read 6 = .ok (.istore_n 1, 1) := by decide +kernel
theorem dX0_read_7 : decode cX0_read 7 = .ok (.iload_n 1, 1) := by decide +kernel
theorem dX0_read_8 : decode cX0_read 8 = .ok (.sipush 250, 3) := by decide +kernel
theorem dX0_read_11 : decode cX0_read 11 = .ok (.if_icmp .gt 45, 3) := by decide +kernel
theorem dX0_read_14 : decode cX0_read 14 = .ok (.aload_n 0, 1) := by decide +kernel
theorem dX0_read_15 : decode cX0_read 15 = .ok (.invokevirtual 29, 3) := by decide +kernel
theorem dX0_read_18 : decode cX0_read 18 = .ok (.aload_n 0, 1) := by decide +kernel
theorem dX0_read_19 : decode cX0_read 19 = .ok (.invokevirtual 32, 3) := by decide +kernel
theorem dX0_read_22 : decode cX0_read 22 = .ok (.ifCond .ne 5, 3) := by decide +kernel
theorem dX0_read_25 : decode cX0_read 25 = .ok (.iconst (-1), 1) := by decide +kernel
theorem dX0_read_26 : decode cX0_read 26 = .ok (.ireturn, 1) := by decide +kernel
theorem dX0_read_27 : decode cX0_read 27 = .ok (.aload_n 0, 1) := by decide +kernel
theorem dX0_read_28 : decode cX0_read 28 = .ok (.invokevirtual 29, 3) := by decide +kernel
theorem dX0_read_31 : decode cX0_read 31 = .ok (.aload_n 0, 1) := by decide +kernel
theorem dX0_read_32 : decode cX0_read 32 = .ok (.getfield 18, 3) := by decide +kernel
theorem dX0_read_35 : decode cX0_read 35 = .ok (.ifCond .ne 5, 3) := by decide +kernel
theorem dX0_read_38 : decode cX0_read 38 = .ok (.iload_n 1, 1) := by decide +kernel
theorem dX0_read_39 : decode cX0_read 39 = .ok (.ireturn, 1) := by decide +kernel
theorem dX0_read_40 : decode cX0_read 40 = .ok (.aload_n 0, 1) := by decide +kernel
theorem dX0_read_41 : decode cX0_read 41 = .ok (.getfield 18, 3) := by decide +kernel
theorem dX0_read_44 : decode cX0_read 44 = .ok (.iconst 3, 1) := by decide +kernel
theorem dX0_read_45 : decode cX0_read 45 = .ok (.if_icmp .eq 5, 3) := by decide +kernel
theorem dX0_read_48 : decode cX0_read 48 = .ok (.iconst (-1), 1) := by decide +kernel
theorem dX0_read_49 : decode cX0_read 49 = .ok (.ireturn, 1) := by decide +kernel
theorem dX0_read_50 : decode cX0_read 50 = .ok (.iinc 1 1, 3) := by decide +kernel
theorem dX0_read_53 : decode cX0_read 53 = .ok (.goto (-46), 3) := by decide +kernel
theorem dX0_read_56 : decode cX0_read 56 = .ok (.iconst (-1), 1) := by decide +kernel
theorem dX0_read_57 : decode cX0_read 57 = .ok (.ireturn, 1) := by decide +kernel
theorem dX0_readStatement_0 : decode cX0_readStatement 0 = .ok (.aload_n 0, 1) := by decide +kernel
theorem dX0_readStatement_1 : decode cX0_readStatement 1 = .ok (.ldc 36, 2) := by decide +kernel
theorem dX0_readStatement_3 : decode cX0_readStatement 3 = .ok (.invokevirtual 38, 3) := by decide +kernel
theorem dX0_readStatement_6 : decode cX0_readStatement 6 = .ok (.ifCond .eq 26, 3) := by decide +kernel
theorem dX0_readStatement_9 : decode cX0_readStatement 9 = .ok (.aload_n 0, 1) := by decide +kernel
theorem dX0_readStatement_10 : decode cX0_readStatement 10 = .ok (.getfield 25, 3) := by decide +kernel
theorem dX0_readStatement_13 : decode cX0_readStatement 13 = .ok (.getfield 42, 3) := by decide +kernel
theorem dX0_readStatement_16 : decode cX0_readStatement 16 = .ok (.ifCond .ne 14, 3) := by decide +kernel
theorem dX0_readStatement_19 : decode cX0_readStatement 19 = .ok (.aload_n 0, 1) := by decide +kernel
theorem dX0_readStatement_20 : decode cX0_readStatement 20 = .ok (.invokevirtual 47, 3) := by decide +kernel
theorem dX0_readStatement_23 : decode cX0_readStatement 23 = .ok (.ifCond .eq 7, 3) := by decide +kernel
theorem dX0_readStatement_26 : decode cX0_readStatement 26 = .ok (.iconst 1, 1) := by decide +kernel
theorem dX0_readStatement_27 : decode cX0_readStatement 27 = .ok (.goto 4, 3) := by decide +kernel
theorem dX0_readStatement_30 : decode cX0_readStatement 30 = .ok (.iconst 0, 1) := by decide +kernel
theorem dX0_readStatement_31 : decode cX0_readStatement 31 = .ok (.ireturn, 1) := by decide +kernel
theorem dX0_readStatement_32 : decode cX0_readStatement 32 = .ok (.aload_n 0, 1) := by decide +kernel
theorem dX0_readStatement_33 : decode cX0_readStatement 33 = .ok (.ldc 50, 2) := by decide +kernel
theorem dX0_readStatement_35 : decode cX0_readStatement 35 = .ok (.invokevirtual 38, 3) := by decide +kernel
theorem dX0_readStatement_38 : decode cX0_readStatement 38 = .ok (.ifCond .eq 26, 3) := by decide +kernel
theorem dX0_readStatement_41 : decode cX0_readStatement 41 = .ok (.aload_n 0, 1) := by decide +kernel
theorem dX0_readStatement_42 : decode cX0_readStatement 42 = .ok (.getfield 25, 3) := by decide +kernel
theorem dX0_readStatement_45 : decode cX0_readStatement 45 = .ok (.invokevirtual 52, 3) := by decide +kernel
theorem dX0_readStatement_48 : decode cX0_readStatement 48 = .ok (.ifCond .ne 14, 3) := by decide +kernel
theorem dX0_readStatement_51 : decode cX0_readStatement 51 = .ok (.aload_n 0, 1) := by decide +kernel
theorem dX0_readStatement_52 : decode cX0_readStatement 52 = .ok (.invokevirtual 55, 3) := by decide +kernel
theorem dX0_readStatement_55 : decode cX0_readStatement 55 = .ok (.ifCond .eq 7, 3) := by decide +kernel
theorem dX0_readStatement_58 : decode cX0_readStatement 58 = .ok (.iconst 1, 1) := by decide +kernel
theorem dX0_readStatement_59 : decode cX0_readStatement 59 = .ok (.goto 4, 3) := by decide +kernel
theorem dX0_readStatement_62 : decode cX0_readStatement 62 = .ok (.iconst 0, 1) := by decide +kernel
theorem dX0_readStatement_63 : decode cX0_readStatement 63 = .ok (.ireturn, 1) := by decide +kernel
theorem dX0_readStatement_64 : decode cX0_readStatement 64 = .ok (.aload_n 0, 1) := by decide +kernel
theorem dX0_readStatement_65 : decode cX0_readStatement 65 = .ok (.ldc 58, 2) := by decide +kernel
theorem dX0_readStatement_67 : decode cX0_readStatement 67 = .ok (.invokevirtual 38, 3) := by decide +kernel
theorem dX0_readStatement_70 : decode cX0_readStatement 70 = .ok (.ifCond .eq 8, 3) := by decide +kernel
theorem dX0_readStatement_73 : decode cX0_readStatement 73 = .ok (.aload_n 0, 1) := by decide +kernel
theorem dX0_readStatement_74 : decode cX0_readStatement 74 = .ok (.invokevirtual 60, 3) := by decide +kernel
theorem dX0_readStatement_77 : decode cX0_readStatement 77 = .ok (.ireturn, 1) := by decide +kernel
theorem dX0_readStatement_78 : decode cX0_readStatement 78 = .ok (.aload_n 0, 1) := by decide +kernel
theorem dX0_readStatement_79 : decode cX0_readStatement 79 = .ok (.ldc 63, 2) := by decide +kernel
theorem dX0_readStatement_81 : decode cX0_readStatement 81 = .ok (.invokevirtual 38, 3) := by decide +kernel
theorem dX0_readStatement_84 : decode cX0_readStatement 84 = .ok (.ifCond .eq 8, 3) := by decide +kernel
theorem dX0_readStatement_87 : decode cX0_readStatement 87 = .ok (.aload_n 0, 1) := by decide +kernel
theorem dX0_readStatement_88 : decode cX0_readStatement 88 = .ok (.invokevirtual 65, 3) := by decide +kernel
theorem dX0_readStatement_91 : decode cX0_readStatement 91 = .ok (.ireturn, 1) := by decide +kernel
theorem dX0_readStatement_92 : decode cX0_readStatement 92 = .ok (.aload_n 0, 1) := by decide +kernel
theorem dX0_readStatement_93 : decode cX0_readStatement 93 = .ok (.ldc 68, 2) := by decide +kernel
theorem dX0_readStatement_95 : decode cX0_readStatement 95 = .ok (.invokevirtual 38, 3) := by decide +kernel
theorem dX0_readStatement_98 : decode cX0_readStatement 98 = .ok (.ifCond .eq 14, 3) := by decide +kernel
theorem dX0_readStatement_101 : decode cX0_readStatement 101 = .ok (.aload_n 0, 1) := by decide +kernel
theorem dX0_readStatement_102 : decode cX0_readStatement 102 = .ok (.invokevirtual 70, 3) := by decide +kernel
theorem dX0_readStatement_105 : decode cX0_readStatement 105 = .ok (.ifCond .eq 7, 3) := by decide +kernel
theorem dX0_readStatement_108 : decode cX0_readStatement 108 = .ok (.iconst 1, 1) := by decide +kernel
theorem dX0_readStatement_109 : decode cX0_readStatement 109 = .ok (.goto 4, 3) := by decide +kernel
theorem dX0_readStatement_112 : decode cX0_readStatement 112 = .ok (.iconst 0, 1) := by decide +kernel
theorem dX0_readStatement_113 : decode cX0_readStatement 113 = .ok (.ireturn, 1) := by decide +kernel
theorem dX0_readRows_0 : decode cX0_readRows 0 = .ok (.aload_n 0, 1) := by decide +kernel
theorem dX0_readRows_1 : decode cX0_readRows 1 = .ok (.iconst 2, 1) := by decide +kernel
theorem dX0_readRows_2 : decode cX0_readRows 2 = .ok (.iconst 4, 1) := by decide +kernel
theorem dX0_readRows_3 : decode cX0_readRows 3 = .ok (.invokevirtual 73, 3) := by decide +kernel
theorem dX0_readRows_6 : decode cX0_readRows 6 = .ok (.istore_n 1, 1) := by decide +kernel
theorem dX0_readRows_7 : decode cX0_readRows 7 = .ok (.iload_n 1, 1) := by decide +kernel
theorem dX0_readRows_8 : decode cX0_readRows 8 = .ok (.iconst (-1), 1) := by decide +kernel
theorem dX0_readRows_9 : decode cX0_readRows 9 = .ok (.if_icmp .ne 5, 3) := by decide +kernel
theorem dX0_readRows_12 : decode cX0_readRows 12 = .ok (.iconst 0, 1) := by decide +kernel
theorem dX0_readRows_13 : decode cX0_readRows 13 = .ok (.ireturn, 1) := by decide +kernel
theorem dX0_readRows_14 : decode cX0_readRows 14 = .ok (.aload_n 0, 1) := by decide +kernel
theorem dX0_readRows_15 : decode cX0_readRows 15 = .ok (.getfield 25, 3) := by decide +kernel
theorem dX0_readRows_18 : decode cX0_readRows 18 = .ok (.iload_n 1, 1) := by decide +kernel
theorem dX0_readRows_19 : decode cX0_readRows 19 = .ok (.putfield 77, 3) := by decide +kernel
theorem dX0_readRows_22 : decode cX0_readRows 22 = .ok (.iconst 1, 1) := by decide +kernel
theorem dX0_readRows_23 : decode cX0_readRows 23 = .ok (.ireturn, 1) := by decide +kernel
theorem dX0_readPupil_0 : decode cX0_readPupil 0 = .ok (.aload_n 0, 1) := by decide +kernel
theorem dX0_readPupil_1 : decode cX0_readPupil 1 = .ok (.iconst 0, 1) := by decide +kernel
theorem dX0_readPupil_2 : decode cX0_readPupil 2 = .ok (.iconst 5, 1) := by decide +kernel
theorem dX0_readPupil_3 : decode cX0_readPupil 3 = .ok (.invokevirtual 73, 3) := by decide +kernel
theorem dX0_readPupil_6 : decode cX0_readPupil 6 = .ok (.istore_n 1, 1) := by decide +kernel
theorem dX0_readPupil_7 : decode cX0_readPupil 7 = .ok (.iload_n 1, 1) := by decide +kernel
theorem dX0_readPupil_8 : decode cX0_readPupil 8 = .ok (.iconst (-1), 1) := by decide +kernel
theorem dX0_readPupil_9 : decode cX0_readPupil 9 = .ok (.if_icmp .ne 7, 3) := by decide +kernel
theorem dX0_readPupil_12 : decode cX0_readPupil 12 = .ok (.iconst (-1), 1) := by decide +kernel
theorem dX0_readPupil_13 : decode cX0_readPupil 13 = .ok (.goto 21, 3) := by decide +kernel
theorem dX0_readPupil_16 : decode cX0_readPupil 16 = .ok (.aload_n 0, 1) := by decide +kernel
theorem dX0_readPupil_17 : decode cX0_readPupil 17 = .ok (.aload_n 0, 1) := by decide +kernel
theorem dX0_readPupil_18 : decode cX0_readPupil 18 = .ok (.iconst 0, 1) := by decide +kernel
theorem dX0_readPupil_19 : decode cX0_readPupil 19 = .ok (.aload_n 0, 1) := by decide +kernel
theorem dX0_readPupil_20 : decode cX0_readPupil 20 = .ok (.getfield 25, 3) := by decide +kernel
theorem dX0_readPupil_23 : decode cX0_readPupil 23 = .ok (.invokevirtual 80, 3) := by decide +kernel
theorem dX0_readPupil_26 : decode cX0_readPupil 26 = .ok (.iconst 1, 1) := by decide +kernel
theorem dX0_readPupil_27 : decode cX0_readPupil 27 = .ok (.isub, 1) := by decide +kernel
theorem dX0_readPupil_28 : decode cX0_readPupil 28 = .ok (.invokevirtual 73, 3) := by decide +kernel
theorem dX0_readPupil_31 : decode cX0_readPupil 31 = .ok (.invokevirtual 84, 3) := by decide +kernel
theorem dX0_readPupil_34 : decode cX0_readPupil 34 = .ok (.istore_n 2, 1) := by decide +kernel
theorem dX0_readPupil_35 : decode cX0_readPupil 35 = .ok (.iload_n 2, 1) := by decide +kernel
theorem dX0_readPupil_36 : decode cX0_readPupil 36 = .ok (.iconst (-1), 1) := by decide +kernel
theorem dX0_readPupil_37 : decode cX0_readPupil 37 = .ok (.if_icmp .ne 7, 3) := by decide +kernel
theorem dX0_readPupil_40 : decode cX0_readPupil 40 = .ok (.iconst (-1), 1) := by decide +kernel
theorem dX0_readPupil_41 : decode cX0_readPupil 41 = .ok (.goto 10, 3) := by decide +kernel
theorem dX0_readPupil_44 : decode cX0_readPupil 44 = .ok (.aload_n 0, 1) := by decide +kernel
theorem dX0_readPupil_45 : decode cX0_readPupil 45 = .ok (.iconst 0, 1) := by decide +kernel
theorem dX0_readPupil_46 : decode cX0_readPupil 46 = .ok (.bipush 9, 2) := by decide +kernel
theorem dX0_readPupil_48 : decode cX0_readPupil 48 = .ok (.invokevirtual 73, 3) := by decide +kernel
theorem dX0_readPupil_51 : decode cX0_readPupil 51 = .ok (.istore_n 3, 1) := by decide +kernel
theorem dX0_readPupil_52 : decode cX0_readPupil 52 = .ok (.iload_n 3, 1) := by decide +kernel
theorem dX0_readPupil_53 : decode cX0_readPupil 53 = .ok (.iconst (-1), 1) := by decide +kernel
theorem dX0_readPupil_54 : decode cX0_readPupil 54 = .ok (.if_icmp .eq 21, 3) := by decide +kernel
theorem dX0_readPupil_57 : decode cX0_readPupil 57 = .ok (.aload_n 0, 1) := by decide +kernel
theorem dX0_readPupil_58 : decode cX0_readPupil 58 = .ok (.getfield 25, 3) := by decide +kernel
theorem dX0_readPupil_61 : decode cX0_readPupil 61 = .ok (.iload_n 1, 1) := by decide +kernel
theorem dX0_readPupil_62 : decode cX0_readPupil 62 = .ok (.iload_n 2, 1) := by decide +kernel
theorem dX0_readPupil_63 : decode cX0_readPupil 63 = .ok (.iload_n 3, 1) := by decide +kernel
theorem dX0_readPupil_64 : decode cX0_readPupil 64 = .ok (.invokevirtual 88, 3) := by decide +kernel
theorem dX0_readPupil_67 : decode cX0_readPupil 67 = .ok (.iconst (-1), 1) := by decide +kernel
theorem dX0_readPupil_68 : decode cX0_readPupil 68 = .ok (.if_icmp .eq 7, 3) := by decide +kernel
theorem dX0_readPupil_71 : decode cX0_readPupil 71 = .ok (.iconst 1, 1) := by decide +kernel
theorem dX0_readPupil_72 : decode cX0_readPupil 72 = .ok (.goto 4, 3) := by decide +kernel
theorem dX0_readPupil_75 : decode cX0_readPupil 75 = .ok (.iconst 0, 1) := by decide +kernel
theorem dX0_readPupil_76 : decode cX0_readPupil 76 = .ok (.ireturn, 1) := by decide +kernel
theorem dX0_readBar_0 : decode cX0_readBar 0 = .ok (.aload_n 0, 1) := by decide +kernel
theorem dX0_readBar_1 : decode cX0_readBar 1 = .ok (.iconst 0, 1) := by decide +kernel
theorem dX0_readBar_2 : decode cX0_readBar 2 = .ok (.aload_n 0, 1) := by decide +kernel
theorem dX0_readBar_3 : decode cX0_readBar 3 = .ok (.getfield 25, 3) := by decide +kernel
theorem dX0_readBar_6 : decode cX0_readBar 6 = .ok (.getfield 42, 3) := by decide +kernel
theorem dX0_readBar_9 : decode cX0_readBar 9 = .ok (.iconst 1, 1) := by decide +kernel
theorem dX0_readBar_10 : decode cX0_readBar 10 = .ok (.isub, 1) := by decide +kernel
theorem dX0_readBar_11 : decode cX0_readBar 11 = .ok (.invokevirtual 73, 3) := by decide +kernel
theorem dX0_readBar_14 : decode cX0_readBar 14 = .ok (.istore_n 1, 1) := by decide +kernel
theorem dX0_readBar_15 : decode cX0_readBar 15 = .ok (.iload_n 1, 1) := by decide +kernel
theorem dX0_readBar_16 : decode cX0_readBar 16 = .ok (.iconst (-1), 1) := by decide +kernel
theorem dX0_readBar_17 : decode cX0_readBar 17 = .ok (.if_icmp .ne 7, 3) := by decide +kernel
theorem dX0_readBar_20 : decode cX0_readBar 20 = .ok (.iconst (-1), 1) := by decide +kernel
theorem dX0_readBar_21 : decode cX0_readBar 21 = .ok (.goto 17, 3) := by decide +kernel
theorem dX0_readBar_24 : decode cX0_readBar 24 = .ok (.aload_n 0, 1) := by decide +kernel
theorem dX0_readBar_25 : decode cX0_readBar 25 = .ok (.iconst 0, 1) := by decide +kernel
theorem dX0_readBar_26 : decode cX0_readBar 26 = .ok (.aload_n 0, 1) := by decide +kernel
theorem dX0_readBar_27 : decode cX0_readBar 27 = .ok (.getfield 25, 3) := by decide +kernel
theorem dX0_readBar_30 : decode cX0_readBar 30 = .ok (.getfield 42, 3) := by decide +kernel
theorem dX0_readBar_33 : decode cX0_readBar 33 = .ok (.iconst 1, 1) := by decide +kernel
theorem dX0_readBar_34 : decode cX0_readBar 34 = .ok (.isub, 1) := by decide +kernel
theorem dX0_readBar_35 : decode cX0_readBar 35 = .ok (.invokevirtual 73, 3) := by decide +kernel
theorem dX0_readBar_38 : decode cX0_readBar 38 = .ok (.istore_n 2, 1) := by decide +kernel
theorem dX0_readBar_39 : decode cX0_readBar 39 = .ok (.iload_n 2, 1) := by decide +kernel
theorem dX0_readBar_40 : decode cX0_readBar 40 = .ok (.iconst (-1), 1) := by decide +kernel
theorem dX0_readBar_41 : decode cX0_readBar 41 = .ok (.if_icmp .eq 8, 3) := by decide +kernel
theorem dX0_readBar_44 : decode cX0_readBar 44 = .ok (.iload_n 2, 1) := by decide +kernel
theorem dX0_readBar_45 : decode cX0_readBar 45 = .ok (.iload_n 1, 1) := by decide +kernel
theorem dX0_readBar_46 : decode cX0_readBar 46 = .ok (.if_icmp .ne 5, 3) := by decide +kernel
theorem dX0_readBar_49 : decode cX0_readBar 49 = .ok (.iconst 0, 1) := by decide +kernel
theorem dX0_readBar_50 : decode cX0_readBar 50 = .ok (.ireturn, 1) := by decide +kernel
theorem dX0_readBar_51 : decode cX0_readBar 51 = .ok (.aload_n 0, 1) := by decide +kernel
theorem dX0_readBar_52 : decode cX0_readBar 52 = .ok (.getfield 25, 3) := by decide +kernel
theorem dX0_readBar_55 : decode cX0_readBar 55 = .ok (.iload_n 1, 1) := by decide +kernel
theorem dX0_readBar_56 : decode cX0_readBar 56 = .ok (.iload_n 2, 1) := by decide +kernel
theorem dX0_readBar_57 : decode cX0_readBar 57 = .ok (.iconst 1, 1) := by decide +kernel
theorem dX0_readBar_58 : decode cX0_readBar 58 = .ok (.invokevirtual 92, 3) := by decide +kernel
theorem dX0_readBar_61 : decode cX0_readBar 61 = .ok (.iconst 1, 1) := by decide +kernel
theorem dX0_readBar_62 : decode cX0_readBar 62 = .ok (.ireturn, 1) := by decide +kernel
theorem dX0_readMove_0 : decode cX0_readMove 0 = .ok (.aload_n 0, 1) := by decide +kernel
theorem dX0_readMove_1 : decode cX0_readMove 1 = .ok (.iconst 0, 1) := by decide +kernel
theorem dX0_readMove_2 : decode cX0_readMove 2 = .ok (.aload_n 0, 1) := by decide +kernel
theorem dX0_readMove_3 : decode cX0_readMove 3 = .ok (.getfield 25, 3) := by decide +kernel
theorem dX0_readMove_6 : decode cX0_readMove 6 = .ok (.getfield 42, 3) := by decide +kernel
theorem dX0_readMove_9 : decode cX0_readMove 9 = .ok (.iconst 1, 1) := by decide +kernel
theorem dX0_readMove_10 : decode cX0_readMove 10 = .ok (.isub, 1) := by decide +kernel
theorem dX0_readMove_11 : decode cX0_readMove 11 = .ok (.invokevirtual 73, 3) := by decide +kernel
theorem dX0_readMove_14 : decode cX0_readMove 14 = .ok (.istore_n 1, 1) := by decide +kernel
theorem dX0_readMove_15 : decode cX0_readMove 15 = .ok (.iload_n 1, 1) := by decide +kernel
theorem dX0_readMove_16 : decode cX0_readMove 16 = .ok (.iconst (-1), 1) := by decide +kernel
theorem dX0_readMove_17 : decode cX0_readMove 17 = .ok (.if_icmp .ne 7, 3) := by decide +kernel
theorem dX0_readMove_20 : decode cX0_readMove 20 = .ok (.iconst (-1), 1) := by decide +kernel
theorem dX0_readMove_21 : decode cX0_readMove 21 = .ok (.goto 21, 3) := by decide +kernel
theorem dX0_readMove_24 : decode cX0_readMove 24 = .ok (.aload_n 0, 1) := by decide +kernel
theorem dX0_readMove_25 : decode cX0_readMove 25 = .ok (.aload_n 0, 1) := by decide +kernel
theorem dX0_readMove_26 : decode cX0_readMove 26 = .ok (.iconst 0, 1) := by decide +kernel
theorem dX0_readMove_27 : decode cX0_readMove 27 = .ok (.aload_n 0, 1) := by decide +kernel
theorem dX0_readMove_28 : decode cX0_readMove 28 = .ok (.getfield 25, 3) := by decide +kernel
theorem dX0_readMove_31 : decode cX0_readMove 31 = .ok (.invokevirtual 80, 3) := by decide +kernel
theorem dX0_readMove_34 : decode cX0_readMove 34 = .ok (.iconst 1, 1) := by decide +kernel
theorem dX0_readMove_35 : decode cX0_readMove 35 = .ok (.isub, 1) := by decide +kernel
theorem dX0_readMove_36 : decode cX0_readMove 36 = .ok (.invokevirtual 73, 3) := by decide +kernel
theorem dX0_readMove_39 : decode cX0_readMove 39 = .ok (.invokevirtual 84, 3) := by decide +kernel
theorem dX0_readMove_42 : decode cX0_readMove 42 = .ok (.istore_n 2, 1) := by decide +kernel
theorem dX0_readMove_43 : decode cX0_readMove 43 = .ok (.iload_n 2, 1) := by decide +kernel
theorem dX0_readMove_44 : decode cX0_readMove 44 = .ok (.iconst (-1), 1) := by decide +kernel
theorem dX0_readMove_45 : decode cX0_readMove 45 = .ok (.if_icmp .ne 5, 3) := by decide +kernel
theorem dX0_readMove_48 : decode cX0_readMove 48 = .ok (.iconst 0, 1) := by decide +kernel
theorem dX0_readMove_49 : decode cX0_readMove 49 = .ok (.ireturn, 1) := by decide +kernel
theorem dX0_readMove_50 : decode cX0_readMove 50 = .ok (.aload_n 0, 1) := by decide +kernel
theorem dX0_readMove_51 : decode cX0_readMove 51 = .ok (.getfield 25, 3) := by decide +kernel
theorem dX0_readMove_54 : decode cX0_readMove 54 = .ok (.iload_n 1, 1) := by decide +kernel
theorem dX0_readMove_55 : decode cX0_readMove 55 = .ok (.iload_n 2, 1) := by decide +kernel
theorem dX0_readMove_56 : decode cX0_readMove 56 = .ok (.invokevirtual 96, 3) := by decide +kernel
theorem dX0_readMove_59 : decode cX0_readMove 59 = .ok (.iconst 1, 1) := by decide +kernel
theorem dX0_readMove_60 : decode cX0_readMove 60 = .ok (.ireturn, 1) := by decide +kernel
theorem dX0_readMaster_0 : decode cX0_readMaster 0 = .ok (.aload_n 0, 1) := by decide +kernel
theorem dX0_readMaster_1 : decode cX0_readMaster 1 = .ok (.iconst 1, 1) := by decide +kernel
theorem dX0_readMaster_2 : decode cX0_readMaster 2 = .ok (.bipush 20, 2) := by decide +kernel
theorem dX0_readMaster_4 : decode cX0_readMaster 4 = .ok (.invokevirtual 73, 3) := by decide +kernel
theorem dX0_readMaster_7 : decode cX0_readMaster 7 = .ok (.istore_n 1, 1) := by decide +kernel
theorem dX0_readMaster_8 : decode cX0_readMaster 8 = .ok (.iload_n 1, 1) := by decide +kernel
theorem dX0_readMaster_9 : decode cX0_readMaster 9 = .ok (.iconst (-1), 1) := by decide +kernel
theorem dX0_readMaster_10 : decode cX0_readMaster 10 = .ok (.if_icmp .ne 7, 3) := by decide +kernel
theorem dX0_readMaster_13 : decode cX0_readMaster 13 = .ok (.iconst (-1), 1) := by decide +kernel
theorem dX0_readMaster_14 : decode cX0_readMaster 14 = .ok (.goto 9, 3) := by decide +kernel
theorem dX0_readMaster_17 : decode cX0_readMaster 17 = .ok (.aload_n 0, 1) := by decide +kernel
theorem dX0_readMaster_18 : decode cX0_readMaster 18 = .ok (.iconst 0, 1) := by decide +kernel
theorem dX0_readMaster_19 : decode cX0_readMaster 19 = .ok (.iload_n 1, 1) := by decide +kernel
theorem dX0_readMaster_20 : decode cX0_readMaster 20 = .ok (.invokevirtual 73, 3) := by decide +kernel
theorem dX0_readMaster_23 : decode cX0_readMaster 23 = .ok (.istore_n 2, 1) := by decide +kernel
theorem dX0_readMaster_24 : decode cX0_readMaster 24 = .ok (.iload_n 2, 1) := by decide +kernel
theorem dX0_readMaster_25 : decode cX0_readMaster 25 = .ok (.iconst (-1), 1) := by decide +kernel
theorem dX0_readMaster_26 : decode cX0_readMaster 26 = .ok (.if_icmp .ne 7, 3) := by decide +kernel
theorem dX0_readMaster_29 : decode cX0_readMaster 29 = .ok (.iconst (-1), 1) := by decide +kernel
theorem dX0_readMaster_30 : decode cX0_readMaster 30 = .ok (.goto 11, 3) := by decide +kernel
theorem dX0_readMaster_33 : decode cX0_readMaster 33 = .ok (.aload_n 0, 1) := by decide +kernel
theorem dX0_readMaster_34 : decode cX0_readMaster 34 = .ok (.iconst 0, 1) := by decide +kernel
theorem dX0_readMaster_35 : decode cX0_readMaster 35 = .ok (.sipush 1000, 3) := by decide +kernel
theorem dX0_readMaster_38 : decode cX0_readMaster 38 = .ok (.invokevirtual 73, 3) := by decide +kernel
theorem dX0_readMaster_41 : decode cX0_readMaster 41 = .ok (.istore_n 3, 1) := by decide +kernel
theorem dX0_readMaster_42 : decode cX0_readMaster 42 = .ok (.iload_n 3, 1) := by decide +kernel
theorem dX0_readMaster_43 : decode cX0_readMaster 43 = .ok (.iconst (-1), 1) := by decide +kernel
theorem dX0_readMaster_44 : decode cX0_readMaster 44 = .ok (.if_icmp .ne 5, 3) := by decide +kernel
theorem dX0_readMaster_47 : decode cX0_readMaster 47 = .ok (.iconst 0, 1) := by decide +kernel
theorem dX0_readMaster_48 : decode cX0_readMaster 48 = .ok (.ireturn, 1) := by decide +kernel
theorem dX0_readMaster_49 : decode cX0_readMaster 49 = .ok (.aload_n 0, 1) := by decide +kernel
theorem dX0_readMaster_50 : decode cX0_readMaster 50 = .ok (.getfield 25, 3) := by decide +kernel
theorem dX0_readMaster_53 : decode cX0_readMaster 53 = .ok (.iload_n 1, 1) := by decide +kernel
theorem dX0_readMaster_54 : decode cX0_readMaster 54 = .ok (.putfield 100, 3) := by decide +kernel
theorem dX0_readMaster_57 : decode cX0_readMaster 57 = .ok (.aload_n 0, 1) := by decide +kernel
theorem dX0_readMaster_58 : decode cX0_readMaster 58 = .ok (.getfield 25, 3) := by decide +kernel
theorem dX0_readMaster_61 : decode cX0_readMaster 61 = .ok (.iload_n 2, 1) := by decide +kernel
theorem dX0_readMaster_62 : decode cX0_readMaster 62 = .ok (.putfield 103, 3) := by decide +kernel
theorem dX0_readMaster_65 : decode cX0_readMaster 65 = .ok (.aload_n 0, 1) := by decide +kernel
theorem dX0_readMaster_66 : decode cX0_readMaster 66 = .ok (.getfield 25, 3) := by decide +kernel
theorem dX0_readMaster_69 : decode cX0_readMaster 69 = .ok (.iload_n 3, 1) := by decide +kernel
theorem dX0_readMaster_70 : decode cX0_readMaster 70 = .ok (.putfield 106, 3) := by decide +kernel
theorem dX0_readMaster_73 : decode cX0_readMaster 73 = .ok (.iconst 1, 1) := by decide +kernel
theorem dX0_readMaster_74 : decode cX0_readMaster 74 = .ok (.ireturn, 1) := by decide +kernel
theorem dX0_onlyFree_0 : decode cX0_onlyFree 0 = .ok (.iload_n 1, 1) := by decide +kernel
theorem dX0_onlyFree_1 : decode cX0_onlyFree 1 = .ok (.iconst (-1), 1) := by decide +kernel
theorem dX0_onlyFree_2 : decode cX0_onlyFree 2 = .ok (.if_icmp .eq 19, 3) := by decide +kernel
theorem dX0_onlyFree_5 : decode cX0_onlyFree 5 = .ok (.aload_n 0, 1) := by decide +kernel
theorem dX0_onlyFree_6 : decode cX0_onlyFree 6 = .ok (.getfield 25, 3) := by decide +kernel
theorem dX0_onlyFree_9 : decode cX0_onlyFree 9 = .ok (.iload_n 1, 1) := by decide +kernel
theorem dX0_onlyFree_10 : decode cX0_onlyFree 10 = .ok (.invokevirtual 109, 3) := by decide +kernel
theorem dX0_onlyFree_13 : decode cX0_onlyFree 13 = .ok (.iconst (-1), 1) := by decide +kernel
theorem dX0_onlyFree_14 : decode cX0_onlyFree 14 = .ok (.if_icmp .ne 7, 3) := by decide +kernel
theorem dX0_onlyFree_17 : decode cX0_onlyFree 17 = .ok (.iload_n 1, 1) := by decide +kernel
theorem dX0_onlyFree_18 : decode cX0_onlyFree 18 = .ok (.goto 4, 3) := by decide +kernel
theorem dX0_onlyFree_21 : decode cX0_onlyFree 21 = .ok (.iconst (-1), 1) := by decide +kernel
theorem dX0_onlyFree_22 : decode cX0_onlyFree 22 = .ok (.ireturn, 1) := by decide +kernel
theorem dX0_nextNumber_0 : decode cX0_nextNumber 0 = .ok (.aload_n 0, 1) := by decide +kernel
theorem dX0_nextNumber_1 : decode cX0_nextNumber 1 = .ok (.invokevirtual 29, 3) := by decide +kernel
theorem dX0_nextNumber_4 : decode cX0_nextNumber 4 = .ok (.aload_n 0, 1) := by decide +kernel
theorem dX0_nextNumber_5 : decode cX0_nextNumber 5 = .ok (.getfield 18, 3) := by decide +kernel
theorem dX0_nextNumber_8 : decode cX0_nextNumber 8 = .ok (.iconst 2, 1) := by decide +kernel
theorem dX0_nextNumber_9 : decode cX0_nextNumber 9 = .ok (.if_icmp .ne 16, 3) := by decide +kernel
theorem dX0_nextNumber_12 : decode cX0_nextNumber 12 = .ok (.aload_n 0, 1) := by decide +kernel
theorem dX0_nextNumber_13 : decode cX0_nextNumber 13 = .ok (.getfield 15, 3) := by decide +kernel
theorem dX0_nextNumber_16 : decode cX0_nextNumber 16 = .ok (.aload_n 0, 1) := by decide +kernel
theorem dX0_nextNumber_17 : decode cX0_nextNumber 17 = .ok (.getfield 9, 3) := by decide +kernel
theorem dX0_nextNumber_20 : decode cX0_nextNumber 20 = .ok (.isub, 1) := by decide +kernel
theorem dX0_nextNumber_21 : decode cX0_nextNumber 21 = .ok (.iconst 4, 1) := by decide +kernel
theorem dX0_nextNumber_22 : decode cX0_nextNumber 22 = .ok (.if_icmp .le 5, 3) := by decide +kernel
theorem dX0_nextNumber_25 : decode cX0_nextNumber 25 = .ok (.iconst (-1), 1) := by decide +kernel
theorem dX0_nextNumber_26 : decode cX0_nextNumber 26 = .ok (.ireturn, 1) := by decide +kernel
theorem dX0_nextNumber_27 : decode cX0_nextNumber 27 = .ok (.iconst 0, 1) := by decide +kernel
theorem dX0_nextNumber_28 : decode cX0_nextNumber 28 = .ok (.istore_n 3, 1) := by decide +kernel
theorem dX0_nextNumber_29 : decode cX0_nextNumber 29 = .ok (.aload_n 0, 1) := by decide +kernel
theorem dX0_nextNumber_30 : decode cX0_nextNumber 30 = .ok (.getfield 9, 3) := by decide +kernel
theorem dX0_nextNumber_33 : decode cX0_nextNumber 33 = .ok (.istore 4, 2) := by decide +kernel
theorem dX0_nextNumber_35 : decode cX0_nextNumber 35 = .ok (.iload 4, 2) := by decide +kernel
theorem dX0_nextNumber_37 : decode cX0_nextNumber 37 = .ok (.aload_n 0, 1) := by decide +kernel
theorem dX0_nextNumber_38 : decode cX0_nextNumber 38 = .ok (.getfield 15, 3) := by decide +kernel
theorem dX0_nextNumber_41 : decode cX0_nextNumber 41 = .ok (.if_icmp .ge 27, 3) := by decide +kernel
theorem dX0_nextNumber_44 : decode cX0_nextNumber 44 = .ok (.bipush 10, 2) := by decide +kernel
theorem dX0_nextNumber_46 : decode cX0_nextNumber 46 = .ok (.iload_n 3, 1) := by decide +kernel
theorem dX0_nextNumber_47 : decode cX0_nextNumber 47 = .ok (.imul, 1) := by decide +kernel
theorem dX0_nextNumber_48 : decode cX0_nextNumber 48 = .ok (.aload_n 0, 1) := by decide +kernel
theorem dX0_nextNumber_49 : decode cX0_nextNumber 49 = .ok (.getfield 21, 3) := by decide +kernel
theorem dX0_nextNumber_52 : decode cX0_nextNumber 52 = .ok (.iload 4, 2) := by decide +kernel
theorem dX0_nextNumber_54 : decode cX0_nextNumber 54 = .ok (.invokevirtual 112, 3) := by decide +kernel
theorem dX0_nextNumber_57 : decode cX0_nextNumber 57 = .ok (.iadd, 1) := by decide +kernel
theorem dX0_nextNumber_58 : decode cX0_nextNumber 58 = .ok (.bipush 48, 2) := by decide +kernel
theorem dX0_nextNumber_60 : decode cX0_nextNumber 60 = .ok (.isub, 1) := by decide +kernel
theorem dX0_nextNumber_61 : decode cX0_nextNumber 61 = .ok (.istore_n 3, 1) := by decide +kernel
theorem dX0_nextNumber_62 : decode cX0_nextNumber 62 = .ok (.iinc 4 1, 3) := by decide +kernel
theorem dX0_nextNumber_65 : decode cX0_nextNumber 65 = .ok (.goto (-30), 3) := by decide +kernel
theorem dX0_nextNumber_68 : decode cX0_nextNumber 68 = .ok (.iload_n 3, 1) := by decide +kernel
theorem dX0_nextNumber_69 : decode cX0_nextNumber 69 = .ok (.iload_n 1, 1) := by decide +kernel
theorem dX0_nextNumber_70 : decode cX0_nextNumber 70 = .ok (.if_icmp .lt 12, 3) := by decide +kernel
theorem dX0_nextNumber_73 : decode cX0_nextNumber 73 = .ok (.iload_n 3, 1) := by decide +kernel
theorem dX0_nextNumber_74 : decode cX0_nextNumber 74 = .ok (.iload_n 2, 1) := by decide +kernel
theorem dX0_nextNumber_75 : decode cX0_nextNumber 75 = .ok (.if_icmp .gt 7, 3) := by decide +kernel
theorem dX0_nextNumber_78 : decode cX0_nextNumber 78 = .ok (.iload_n 3, 1) := by decide +kernel
theorem dX0_nextNumber_79 : decode cX0_nextNumber 79 = .ok (.goto 4, 3) := by decide +kernel
theorem dX0_nextNumber_82 : decode cX0_nextNumber 82 = .ok (.iconst (-1), 1) := by decide +kernel
theorem dX0_nextNumber_83 : decode cX0_nextNumber 83 = .ok (.ireturn, 1) := by decide +kernel
theorem dX0_next_0 : decode cX0_next 0 = .ok (.aload_n 0, 1) := by decide +kernel
theorem dX0_next_1 : decode cX0_next 1 = .ok (.aload_n 0, 1) := by decide +kernel
theorem dX0_next_2 : decode cX0_next 2 = .ok (.getfield 15, 3) := by decide +kernel
theorem dX0_next_5 : decode cX0_next 5 = .ok (.putfield 9, 3) := by decide +kernel
theorem dX0_next_8 : decode cX0_next 8 = .ok (.aload_n 0, 1) := by decide +kernel
theorem dX0_next_9 : decode cX0_next 9 = .ok (.getfield 9, 3) := by decide +kernel
theorem dX0_next_12 : decode cX0_next 12 = .ok (.aload_n 0, 1) := by decide +kernel
theorem dX0_next_13 : decode cX0_next 13 = .ok (.getfield 21, 3) := by decide +kernel
theorem dX0_next_16 : decode cX0_next 16 = .ok (.getfield 117, 3) := by decide +kernel
theorem dX0_next_19 : decode cX0_next 19 = .ok (.if_icmp .ge 32, 3) := by decide +kernel
theorem dX0_next_22 : decode cX0_next 22 = .ok (.aload_n 0, 1) := by decide +kernel
theorem dX0_next_23 : decode cX0_next 23 = .ok (.getfield 21, 3) := by decide +kernel
theorem dX0_next_26 : decode cX0_next 26 = .ok (.aload_n 0, 1) := by decide +kernel
theorem dX0_next_27 : decode cX0_next 27 = .ok (.getfield 9, 3) := by decide +kernel
theorem dX0_next_30 : decode cX0_next 30 = .ok (.invokevirtual 112, 3) := by decide +kernel
theorem dX0_next_33 : decode cX0_next 33 = .ok (.bipush 32, 2) := by decide +kernel
theorem dX0_next_35 : decode cX0_next 35 = .ok (.if_icmp .ne 16, 3) := by decide +kernel
theorem dX0_next_38 : decode cX0_next 38 = .ok (.aload_n 0, 1) := by decide +kernel
theorem dX0_next_39 : decode cX0_next 39 = .ok (.dup, 1) := by decide +kernel
theorem dX0_next_40 : decode cX0_next 40 = .ok (.getfield 9, 3) := by decide +kernel
theorem dX0_next_43 : decode cX0_next 43 = .ok (.iconst 1, 1) := by decide +kernel
theorem dX0_next_44 : decode cX0_next 44 = .ok (.iadd, 1) := by decide +kernel
theorem dX0_next_45 : decode cX0_next 45 = .ok (.putfield 9, 3) := by decide +kernel
theorem dX0_next_48 : decode cX0_next 48 = .ok (.goto (-40), 3) := by decide +kernel
theorem dX0_next_51 : decode cX0_next 51 = .ok (.aload_n 0, 1) := by decide +kernel
theorem dX0_next_52 : decode cX0_next 52 = .ok (.aload_n 0, 1) := by decide +kernel
theorem dX0_next_53 : decode cX0_next 53 = .ok (.getfield 9, 3) := by decide +kernel
theorem dX0_next_56 : decode cX0_next 56 = .ok (.putfield 15, 3) := by decide +kernel
theorem dX0_next_59 : decode cX0_next 59 = .ok (.aload_n 0, 1) := by decide +kernel
theorem dX0_next_60 : decode cX0_next 60 = .ok (.aload_n 0, 1) := by decide +kernel
theorem dX0_next_61 : decode cX0_next 61 = .ok (.getfield 21, 3) := by decide +kernel
theorem dX0_next_64 : decode cX0_next 64 = .ok (.aload_n 0, 1) := by decide +kernel
theorem dX0_next_65 : decode cX0_next 65 = .ok (.getfield 9, 3) := by decide +kernel
theorem dX0_next_68 : decode cX0_next 68 = .ok (.invokevirtual 112, 3) := by decide +kernel
theorem dX0_next_71 : decode cX0_next 71 = .ok (.invokestatic 120, 3) := by decide +kernel
theorem dX0_next_74 : decode cX0_next 74 = .ok (.putfield 18, 3) := by decide +kernel
theorem dX0_next_77 : decode cX0_next 77 = .ok (.aload_n 0, 1) := by decide +kernel
theorem dX0_next_78 : decode cX0_next 78 = .ok (.getfield 18, 3) := by decide +kernel
theorem dX0_next_81 : decode cX0_next 81 = .ok (.iconst 1, 1) := by decide +kernel
theorem dX0_next_82 : decode cX0_next 82 = .ok (.if_icmp .eq 11, 3) := by decide +kernel
theorem dX0_next_85 : decode cX0_next 85 = .ok (.aload_n 0, 1) := by decide +kernel
theorem dX0_next_86 : decode cX0_next 86 = .ok (.getfield 18, 3) := by decide +kernel
theorem dX0_next_89 : decode cX0_next 89 = .ok (.iconst 2, 1) := by decide +kernel
theorem dX0_next_90 : decode cX0_next 90 = .ok (.if_icmp .ne 51, 3) := by decide +kernel
theorem dX0_next_93 : decode cX0_next 93 = .ok (.aload_n 0, 1) := by decide +kernel
theorem dX0_next_94 : decode cX0_next 94 = .ok (.getfield 15, 3) := by decide +kernel
theorem dX0_next_97 : decode cX0_next 97 = .ok (.aload_n 0, 1) := by decide +kernel
theorem dX0_next_98 : decode cX0_next 98 = .ok (.getfield 21, 3) := by decide +kernel
theorem dX0_next_101 : decode cX0_next 101 = .ok (.getfield 117, 3) := by decide +kernel
theorem dX0_next_104 : decode cX0_next 104 = .ok (.if_icmp .ge 54, 3) := by decide +kernel
theorem dX0_next_107 : decode cX0_next 107 = .ok (.aload_n 0, 1) := by decide +kernel
theorem dX0_next_108 : decode cX0_next 108 = .ok (.getfield 21, 3) := by decide +kernel
theorem dX0_next_111 : decode cX0_next 111 = .ok (.aload_n 0, 1) := by decide +kernel
theorem dX0_next_112 : decode cX0_next 112 = .ok (.getfield 15, 3) := by decide +kernel
theorem dX0_next_115 : decode cX0_next 115 = .ok (.invokevirtual 112, 3) := by decide +kernel
theorem dX0_next_118 : decode cX0_next 118 = .ok (.invokestatic 120, 3) := by decide +kernel
theorem dX0_next_121 : decode cX0_next 121 = .ok (.aload_n 0, 1) := by decide +kernel
theorem dX0_next_122 : decode cX0_next 122 = .ok (.getfield 18, 3) := by decide +kernel
theorem dX0_next_125 : decode cX0_next 125 = .ok (.if_icmp .ne 33, 3) := by decide +kernel
theorem dX0_next_128 : decode cX0_next 128 = .ok (.aload_n 0, 1) := by decide +kernel
theorem dX0_next_129 : decode cX0_next 129 = .ok (.dup, 1) := by decide +kernel
theorem dX0_next_130 : decode cX0_next 130 = .ok (.getfield 15, 3) := by decide +kernel
theorem dX0_next_133 : decode cX0_next 133 = .ok (.iconst 1, 1) := by decide +kernel
theorem dX0_next_134 : decode cX0_next 134 = .ok (.iadd, 1) := by decide +kernel
theorem dX0_next_135 : decode cX0_next 135 = .ok (.putfield 15, 3) := by decide +kernel
theorem dX0_next_138 : decode cX0_next 138 = .ok (.goto (-45), 3) := by decide +kernel
theorem dX0_next_141 : decode cX0_next 141 = .ok (.aload_n 0, 1) := by decide +kernel
theorem dX0_next_142 : decode cX0_next 142 = .ok (.getfield 18, 3) := by decide +kernel
theorem dX0_next_145 : decode cX0_next 145 = .ok (.ifCond .eq 13, 3) := by decide +kernel
theorem dX0_next_148 : decode cX0_next 148 = .ok (.aload_n 0, 1) := by decide +kernel
theorem dX0_next_149 : decode cX0_next 149 = .ok (.dup, 1) := by decide +kernel
theorem dX0_next_150 : decode cX0_next 150 = .ok (.getfield 15, 3) := by decide +kernel
theorem dX0_next_153 : decode cX0_next 153 = .ok (.iconst 1, 1) := by decide +kernel
theorem dX0_next_154 : decode cX0_next 154 = .ok (.iadd, 1) := by decide +kernel
theorem dX0_next_155 : decode cX0_next 155 = .ok (.putfield 15, 3) := by decide +kernel
theorem dX0_next_158 : decode cX0_next 158 = .ok (.return_, 1) := by decide +kernel
theorem dX0_sortOf_0 : decode cX0_sortOf 0 = .ok (.iload_n 0, 1) := by decide +kernel
theorem dX0_sortOf_1 : decode cX0_sortOf 1 = .ok (.iconst (-1), 1) := by decide +kernel
theorem dX0_sortOf_2 : decode cX0_sortOf 2 = .ok (.if_icmp .ne 5, 3) := by decide +kernel
theorem dX0_sortOf_5 : decode cX0_sortOf 5 = .ok (.iconst 0, 1) := by decide +kernel
theorem dX0_sortOf_6 : decode cX0_sortOf 6 = .ok (.ireturn, 1) := by decide +kernel
theorem dX0_sortOf_7 : decode cX0_sortOf 7 = .ok (.iload_n 0, 1) := by decide +kernel
theorem dX0_sortOf_8 : decode cX0_sortOf 8 = .ok (.bipush 97, 2) := by decide +kernel
theorem dX0_sortOf_10 : decode cX0_sortOf 10 = .ok (.if_icmp .lt 11, 3) := by decide +kernel
theorem dX0_sortOf_13 : decode cX0_sortOf 13 = .ok (.iload_n 0, 1) := by decide +kernel
theorem dX0_sortOf_14 : decode cX0_sortOf 14 = .ok (.bipush 122, 2) := by decide +kernel
theorem dX0_sortOf_16 : decode cX0_sortOf 16 = .ok (.if_icmp .gt 5, 3) := by decide +kernel
theorem dX0_sortOf_19 : decode cX0_sortOf 19 = .ok (.iconst 1, 1) := by decide +kernel
theorem dX0_sortOf_20 : decode cX0_sortOf 20 = .ok (.ireturn, 1) := by decide +kernel
theorem dX0_sortOf_21 : decode cX0_sortOf 21 = .ok (.iload_n 0, 1) := by decide +kernel
theorem dX0_sortOf_22 : decode cX0_sortOf 22 = .ok (.bipush 48, 2) := by decide +kernel
theorem dX0_sortOf_24 : decode cX0_sortOf 24 = .ok (.if_icmp .lt 11, 3) := by decide +kernel
theorem dX0_sortOf_27 : decode cX0_sortOf 27 = .ok (.iload_n 0, 1) := by decide +kernel
theorem dX0_sortOf_28 : decode cX0_sortOf 28 = .ok (.bipush 57, 2) := by decide +kernel
theorem dX0_sortOf_30 : decode cX0_sortOf 30 = .ok (.if_icmp .gt 5, 3) := by decide +kernel
theorem dX0_sortOf_33 : decode cX0_sortOf 33 = .ok (.iconst 2, 1) := by decide +kernel
theorem dX0_sortOf_34 : decode cX0_sortOf 34 = .ok (.ireturn, 1) := by decide +kernel
theorem dX0_sortOf_35 : decode cX0_sortOf 35 = .ok (.iload_n 0, 1) := by decide +kernel
theorem dX0_sortOf_36 : decode cX0_sortOf 36 = .ok (.bipush 59, 2) := by decide +kernel
theorem dX0_sortOf_38 : decode cX0_sortOf 38 = .ok (.if_icmp .ne 7, 3) := by decide +kernel
theorem dX0_sortOf_41 : decode cX0_sortOf 41 = .ok (.iconst 3, 1) := by decide +kernel
theorem dX0_sortOf_42 : decode cX0_sortOf 42 = .ok (.goto 4, 3) := by decide +kernel
theorem dX0_sortOf_45 : decode cX0_sortOf 45 = .ok (.iconst 4, 1) := by decide +kernel
theorem dX0_sortOf_46 : decode cX0_sortOf 46 = .ok (.ireturn, 1) := by decide +kernel
theorem dX0_isWord_0 : decode cX0_isWord 0 = .ok (.aload_n 0, 1) := by decide +kernel
theorem dX0_isWord_1 : decode cX0_isWord 1 = .ok (.getfield 18, 3) := by decide +kernel
theorem dX0_isWord_4 : decode cX0_isWord 4 = .ok (.iconst 1, 1) := by decide +kernel
theorem dX0_isWord_5 : decode cX0_isWord 5 = .ok (.if_icmp .ne 19, 3) := by decide +kernel
theorem dX0_isWord_8 : decode cX0_isWord 8 = .ok (.aload_n 0, 1) := by decide +kernel
theorem dX0_isWord_9 : decode cX0_isWord 9 = .ok (.getfield 15, 3) := by decide +kernel
theorem dX0_isWord_12 : decode cX0_isWord 12 = .ok (.aload_n 0, 1) := by decide +kernel
theorem dX0_isWord_13 : decode cX0_isWord 13 = .ok (.getfield 9, 3) := by decide +kernel
theorem dX0_isWord_16 : decode cX0_isWord 16 = .ok (.isub, 1) := by decide +kernel
theorem dX0_isWord_17 : decode cX0_isWord 17 = .ok (.aload_n 1, 1) := by decide +kernel
theorem dX0_isWord_18 : decode cX0_isWord 18 = .ok (.invokevirtual 123, 3) := by decide +kernel
theorem dX0_isWord_21 : decode cX0_isWord 21 = .ok (.if_icmp .eq 5, 3) := by decide +kernel
theorem dX0_isWord_24 : decode cX0_isWord 24 = .ok (.iconst 0, 1) := by decide +kernel
theorem dX0_isWord_25 : decode cX0_isWord 25 = .ok (.ireturn, 1) := by decide +kernel
theorem dX0_isWord_26 : decode cX0_isWord 26 = .ok (.iconst 0, 1) := by decide +kernel
theorem dX0_isWord_27 : decode cX0_isWord 27 = .ok (.istore_n 2, 1) := by decide +kernel
theorem dX0_isWord_28 : decode cX0_isWord 28 = .ok (.iload_n 2, 1) := by decide +kernel
theorem dX0_isWord_29 : decode cX0_isWord 29 = .ok (.aload_n 1, 1) := by decide +kernel
theorem dX0_isWord_30 : decode cX0_isWord 30 = .ok (.invokevirtual 123, 3) := by decide +kernel
theorem dX0_isWord_33 : decode cX0_isWord 33 = .ok (.if_icmp .ge 32, 3) := by decide +kernel
theorem dX0_isWord_36 : decode cX0_isWord 36 = .ok (.aload_n 0, 1) := by decide +kernel
theorem dX0_isWord_37 : decode cX0_isWord 37 = .ok (.getfield 21, 3) := by decide +kernel
theorem dX0_isWord_40 : decode cX0_isWord 40 = .ok (.aload_n 0, 1) := by decide +kernel
theorem dX0_isWord_41 : decode cX0_isWord 41 = .ok (.getfield 9, 3) := by decide +kernel
theorem dX0_isWord_44 : decode cX0_isWord 44 = .ok (.iload_n 2, 1) := by decide +kernel
theorem dX0_isWord_45 : decode cX0_isWord 45 = .ok (.iadd, 1) := by decide +kernel
theorem dX0_isWord_46 : decode cX0_isWord 46 = .ok (.invokevirtual 112, 3) := by decide +kernel
theorem dX0_isWord_49 : decode cX0_isWord 49 = .ok (.aload_n 1, 1) := by decide +kernel
theorem dX0_isWord_50 : decode cX0_isWord 50 = .ok (.iload_n 2, 1) := by decide +kernel
theorem dX0_isWord_51 : decode cX0_isWord 51 = .ok (.invokevirtual 128, 3) := by decide +kernel
theorem dX0_isWord_54 : decode cX0_isWord 54 = .ok (.if_icmp .eq 5, 3) := by decide +kernel
theorem dX0_isWord_57 : decode cX0_isWord 57 = .ok (.iconst 0, 1) := by decide +kernel
theorem dX0_isWord_58 : decode cX0_isWord 58 = .ok (.ireturn, 1) := by decide +kernel
theorem dX0_isWord_59 : decode cX0_isWord 59 = .ok (.iinc 2 1, 3) := by decide +kernel
theorem dX0_isWord_62 : decode cX0_isWord 62 = .ok (.goto (-34), 3) := by decide +kernel
theorem dX0_isWord_65 : decode cX0_isWord 65 = .ok (.iconst 1, 1) := by decide +kernel
theorem dX0_isWord_66 : decode cX0_isWord 66 = .ok (.ireturn, 1) := by decide +kernel
theorem dX1_init_0 : decode cX1_init 0 = .ok (.aload_n 0, 1) := by decide +kernel
theorem dX1_init_1 : decode cX1_init 1 = .ok (.invokespecial 3, 3) := by decide +kernel
theorem dX1_init_4 : decode cX1_init 4 = .ok (.aload_n 0, 1) := by decide +kernel
theorem dX1_init_5 : decode cX1_init 5 = .ok (.iconst 3, 1) := by decide +kernel
theorem dX1_init_6 : decode cX1_init 6 = .ok (.putfield 9, 3) := by decide +kernel
theorem dX1_init_9 : decode cX1_init 9 = .ok (.aload_n 0, 1) := by decide +kernel
theorem dX1_init_10 : decode cX1_init 10 = .ok (.iconst 0, 1) := by decide +kernel
theorem dX1_init_11 : decode cX1_init 11 = .ok (.putfield 15, 3) := by decide +kernel
theorem dX1_init_14 : decode cX1_init 14 = .ok (.aload_n 0, 1) := by decide +kernel
theorem dX1_init_15 : decode cX1_init 15 = .ok (.bipush 8, 2) := by decide +kernel
theorem dX1_init_17 : decode cX1_init 17 = .ok (.putfield 18, 3) := by decide +kernel
theorem dX1_init_20 : decode cX1_init 20 = .ok (.aload_n 0, 1) := by decide +kernel
theorem dX1_init_21 : decode cX1_init 21 = .ok (.iconst 4, 1) := by decide +kernel
theorem dX1_init_22 : decode cX1_init 22 = .ok (.putfield 21, 3) := by decide +kernel
theorem dX1_init_25 : decode cX1_init 25 = .ok (.aload_n 0, 1) := by decide +kernel
theorem dX1_init_26 : decode cX1_init 26 = .ok (.sipush 300, 3) := by decide +kernel
theorem dX1_init_29 : decode cX1_init 29 = .ok (.putfield 24, 3) := by decide +kernel
theorem dX1_init_32 : decode cX1_init 32 = .ok (.aload_n 0, 1) := by decide +kernel
theorem dX1_init_33 : decode cX1_init 33 = .ok (.bipush 12, 2) := by decide +kernel
theorem dX1_init_35 : decode cX1_init 35 = .ok (.newarray .int, 2) := by decide +kernel
theorem dX1_init_37 : decode cX1_init 37 = .ok (.putfield 27, 3) := by decide +kernel
theorem dX1_init_40 : decode cX1_init 40 = .ok (.aload_n 0, 1) := by decide +kernel
theorem dX1_init_41 : decode cX1_init 41 = .ok (.bipush 12, 2) := by decide +kernel
theorem dX1_init_43 : decode cX1_init 43 = .ok (.newarray .int, 2) := by decide +kernel
theorem dX1_init_45 : decode cX1_init 45 = .ok (.putfield 31, 3) := by decide +kernel
theorem dX1_init_48 : decode cX1_init 48 = .ok (.aload_n 0, 1) := by decide +kernel
theorem dX1_init_49 : decode cX1_init 49 = .ok (.bipush 12, 2) := by decide +kernel
theorem dX1_init_51 : decode cX1_init 51 = .ok (.newarray .int, 2) := by decide +kernel
theorem dX1_init_53 : decode cX1_init 53 = .ok (.putfield 34, 3) := by decide +kernel
theorem dX1_init_56 : decode cX1_init 56 = .ok (.aload_n 0, 1) := by decide +kernel
theorem dX1_init_57 : decode cX1_init 57 = .ok (.bipush 12, 2) := by decide +kernel
theorem dX1_init_59 : decode cX1_init 59 = .ok (.newarray .int, 2) := by decide +kernel
theorem dX1_init_61 : decode cX1_init 61 = .ok (.putfield 37, 3) := by decide +kernel
theorem dX1_init_64 : decode cX1_init 64 = .ok (.aload_n 0, 1) := by decide +kernel
theorem dX1_init_65 : decode cX1_init 65 = .ok (.bipush 12, 2) := by decide +kernel
theorem dX1_init_67 : decode cX1_init 67 = .ok (.newarray .int, 2) := by decide +kernel
theorem dX1_init_69 : decode cX1_init 69 = .ok (.putfield 40, 3) := by decide +kernel
theorem dX1_init_72 : decode cX1_init 72 = .ok (.return_, 1) := by decide +kernel
theorem dX1_takeOver_0 : decode cX1_takeOver 0 = .ok (.aload_n 0, 1) := by decide +kernel
theorem dX1_takeOver_1 : decode cX1_takeOver 1 = .ok (.aload_n 1, 1) := by decide +kernel
theorem dX1_takeOver_2 : decode cX1_takeOver 2 = .ok (.getfield 9, 3) := by decide +kernel
theorem dX1_takeOver_5 : decode cX1_takeOver 5 = .ok (.putfield 9, 3) := by decide +kernel
theorem dX1_takeOver_8 : decode cX1_takeOver 8 = .ok (.aload_n 0, 1) := by decide +kernel
theorem dX1_takeOver_9 : decode cX1_takeOver 9 = .ok (.aload_n 1, 1) := by decide +kernel
theorem dX1_takeOver_10 : decode cX1_takeOver 10 = .ok (.getfield 15, 3) := by decide +kernel
theorem dX1_takeOver_13 : decode cX1_takeOver 13 = .ok (.putfield 15, 3) := by decide +kernel
theorem dX1_takeOver_16 : decode cX1_takeOver 16 = .ok (.aload_n 0, 1) := by decide +kernel
theorem dX1_takeOver_17 : decode cX1_takeOver 17 = .ok (.aload_n 1, 1) := by decide +kernel
theorem dX1_takeOver_18 : decode cX1_takeOver 18 = .ok (.getfield 18, 3) := by decide +kernel
theorem dX1_takeOver_21 : decode cX1_takeOver 21 = .ok (.putfield 18, 3) := by decide +kernel
theorem dX1_takeOver_24 : decode cX1_takeOver 24 = .ok (.aload_n 0, 1) := by decide +kernel
theorem dX1_takeOver_25 : decode cX1_takeOver 25 = .ok (.aload_n 1, 1) := by decide +kernel
theorem dX1_takeOver_26 : decode cX1_takeOver 26 = .ok (.getfield 21, 3) := by decide +kernel
theorem dX1_takeOver_29 : decode cX1_takeOver 29 = .ok (.putfield 21, 3) := by decide +kernel
theorem dX1_takeOver_32 : decode cX1_takeOver 32 = .ok (.aload_n 0, 1) := by decide +kernel
theorem dX1_takeOver_33 : decode cX1_takeOver 33 = .ok (.aload_n 1, 1) := by decide +kernel
theorem dX1_takeOver_34 : decode cX1_takeOver 34 = .ok (.getfield 24, 3) := by decide +kernel
theorem dX1_takeOver_37 : decode cX1_takeOver 37 = .ok (.putfield 24, 3) := by decide +kernel
theorem dX1_takeOver_40 : decode cX1_takeOver 40 = .ok (.aload_n 1, 1) := by decide +kernel
theorem dX1_takeOver_41 : decode cX1_takeOver 41 = .ok (.getfield 27, 3) := by decide +kernel
theorem dX1_takeOver_44 : decode cX1_takeOver 44 = .ok (.iconst 0, 1) := by decide +kernel
theorem dX1_takeOver_45 : decode cX1_takeOver 45 = .ok (.aload_n 0, 1) := by decide +kernel
theorem dX1_takeOver_46 : decode cX1_takeOver 46 = .ok (.getfield 27, 3) := by decide +kernel
theorem dX1_takeOver_49 : decode cX1_takeOver 49 = .ok (.iconst 0, 1) := by decide +kernel
theorem dX1_takeOver_50 : decode cX1_takeOver 50 = .ok (.bipush 12, 2) := by decide +kernel
theorem dX1_takeOver_52 : decode cX1_takeOver 52 = .ok (.invokestatic 43, 3) := by decide +kernel
theorem dX1_takeOver_55 : decode cX1_takeOver 55 = .ok (.aload_n 1, 1) := by decide +kernel
theorem dX1_takeOver_56 : decode cX1_takeOver 56 = .ok (.getfield 31, 3) := by decide +kernel
theorem dX1_takeOver_59 : decode cX1_takeOver 59 = .ok (.iconst 0, 1) := by decide +kernel
theorem dX1_takeOver_60 : decode cX1_takeOver 60 = .ok (.aload_n 0, 1) := by decide +kernel
theorem dX1_takeOver_61 : decode cX1_takeOver 61 = .ok (.getfield 31, 3) := by decide +kernel
theorem dX1_takeOver_64 : decode cX1_takeOver 64 = .ok (.iconst 0, 1) := by decide +kernel
theorem dX1_takeOver_65 : decode cX1_takeOver 65 = .ok (.bipush 12, 2) := by decide +kernel
theorem dX1_takeOver_67 : decode cX1_takeOver 67 = .ok (.invokestatic 43, 3) := by decide +kernel
theorem dX1_takeOver_70 : decode cX1_takeOver 70 = .ok (.aload_n 1, 1) := by decide +kernel
theorem dX1_takeOver_71 : decode cX1_takeOver 71 = .ok (.getfield 34, 3) := by decide +kernel
theorem dX1_takeOver_74 : decode cX1_takeOver 74 = .ok (.iconst 0, 1) := by decide +kernel
theorem dX1_takeOver_75 : decode cX1_takeOver 75 = .ok (.aload_n 0, 1) := by decide +kernel
theorem dX1_takeOver_76 : decode cX1_takeOver 76 = .ok (.getfield 34, 3) := by decide +kernel
theorem dX1_takeOver_79 : decode cX1_takeOver 79 = .ok (.iconst 0, 1) := by decide +kernel
theorem dX1_takeOver_80 : decode cX1_takeOver 80 = .ok (.bipush 12, 2) := by decide +kernel
theorem dX1_takeOver_82 : decode cX1_takeOver 82 = .ok (.invokestatic 43, 3) := by decide +kernel
theorem dX1_takeOver_85 : decode cX1_takeOver 85 = .ok (.aload_n 1, 1) := by decide +kernel
theorem dX1_takeOver_86 : decode cX1_takeOver 86 = .ok (.getfield 37, 3) := by decide +kernel
theorem dX1_takeOver_89 : decode cX1_takeOver 89 = .ok (.iconst 0, 1) := by decide +kernel
theorem dX1_takeOver_90 : decode cX1_takeOver 90 = .ok (.aload_n 0, 1) := by decide +kernel
theorem dX1_takeOver_91 : decode cX1_takeOver 91 = .ok (.getfield 37, 3) := by decide +kernel
theorem dX1_takeOver_94 : decode cX1_takeOver 94 = .ok (.iconst 0, 1) := by decide +kernel
theorem dX1_takeOver_95 : decode cX1_takeOver 95 = .ok (.bipush 12, 2) := by decide +kernel
theorem dX1_takeOver_97 : decode cX1_takeOver 97 = .ok (.invokestatic 43, 3) := by decide +kernel
theorem dX1_takeOver_100 : decode cX1_takeOver 100 = .ok (.aload_n 1, 1) := by decide +kernel
theorem dX1_takeOver_101 : decode cX1_takeOver 101 = .ok (.getfield 40, 3) := by decide +kernel
theorem dX1_takeOver_104 : decode cX1_takeOver 104 = .ok (.iconst 0, 1) := by decide +kernel
theorem dX1_takeOver_105 : decode cX1_takeOver 105 = .ok (.aload_n 0, 1) := by decide +kernel
theorem dX1_takeOver_106 : decode cX1_takeOver 106 = .ok (.getfield 40, 3) := by decide +kernel
theorem dX1_takeOver_109 : decode cX1_takeOver 109 = .ok (.iconst 0, 1) := by decide +kernel
theorem dX1_takeOver_110 : decode cX1_takeOver 110 = .ok (.bipush 12, 2) := by decide +kernel
theorem dX1_takeOver_112 : decode cX1_takeOver 112 = .ok (.invokestatic 43, 3) := by decide +kernel
theorem dX1_takeOver_115 : decode cX1_takeOver 115 = .ok (.return_, 1) := by decide +kernel
theorem dX1_has_0 : decode cX1_has 0 = .ok (.iload_n 1, 1) := by decide +kernel
theorem dX1_has_1 : decode cX1_has 1 = .ok (.ifCond .lt 21, 3) := by decide +kernel
theorem dX1_has_4 : decode cX1_has 4 = .ok (.iload_n 1, 1) := by decide +kernel
theorem dX1_has_5 : decode cX1_has 5 = .ok (.aload_n 0, 1) := by decide +kernel
theorem dX1_has_6 : decode cX1_has 6 = .ok (.getfield 15, 3) := by decide +kernel
theorem dX1_has_9 : decode cX1_has 9 = .ok (.if_icmp .ge 13, 3) := by decide +kernel
theorem dX1_has_12 : decode cX1_has 12 = .ok (.iload_n 1, 1) := by decide +kernel
theorem dX1_has_13 : decode cX1_has 13 = .ok (.bipush 12, 2) := by decide +kernel
theorem dX1_has_15 : decode cX1_has 15 = .ok (.if_icmp .ge 7, 3) := by decide +kernel
theorem dX1_has_18 : decode cX1_has 18 = .ok (.iconst 1, 1) := by decide +kernel
theorem dX1_has_19 : decode cX1_has 19 = .ok (.goto 4, 3) := by decide +kernel
theorem dX1_has_22 : decode cX1_has 22 = .ok (.iconst 0, 1) := by decide +kernel
theorem dX1_has_23 : decode cX1_has 23 = .ok (.ireturn, 1) := by decide +kernel
theorem dX1_isFull_0 : decode cX1_isFull 0 = .ok (.aload_n 0, 1) := by decide +kernel
theorem dX1_isFull_1 : decode cX1_isFull 1 = .ok (.getfield 15, 3) := by decide +kernel
theorem dX1_isFull_4 : decode cX1_isFull 4 = .ok (.bipush 12, 2) := by decide +kernel
theorem dX1_isFull_6 : decode cX1_isFull 6 = .ok (.if_icmp .lt 7, 3) := by decide +kernel
theorem dX1_isFull_9 : decode cX1_isFull 9 = .ok (.iconst 1, 1) := by decide +kernel
theorem dX1_isFull_10 : decode cX1_isFull 10 = .ok (.goto 4, 3) := by decide +kernel
theorem dX1_isFull_13 : decode cX1_isFull 13 = .ok (.iconst 0, 1) := by decide +kernel
theorem dX1_isFull_14 : decode cX1_isFull 14 = .ok (.ireturn, 1) := by decide +kernel
theorem dX1_deskCount_0 : decode cX1_deskCount 0 = .ok (.aload_n 0, 1) := by decide +kernel
theorem dX1_deskCount_1 : decode cX1_deskCount 1 = .ok (.getfield 9, 3) := by decide +kernel
theorem dX1_deskCount_4 : decode cX1_deskCount 4 = .ok (.iconst 4, 1) := by decide +kernel
theorem dX1_deskCount_5 : decode cX1_deskCount 5 = .ok (.imul, 1) := by decide +kernel
theorem dX1_deskCount_6 : decode cX1_deskCount 6 = .ok (.ireturn, 1) := by decide +kernel
theorem dX1_hasDesk_0 : decode cX1_hasDesk 0 = .ok (.iload_n 1, 1) := by decide +kernel
theorem dX1_hasDesk_1 : decode cX1_hasDesk 1 = .ok (.ifCond .lt 15, 3) := by decide +kernel
theorem dX1_hasDesk_4 : decode cX1_hasDesk 4 = .ok (.iload_n 1, 1) := by decide +kernel
theorem dX1_hasDesk_5 : decode cX1_hasDesk 5 = .ok (.aload_n 0, 1) := by decide +kernel
theorem dX1_hasDesk_6 : decode cX1_hasDesk 6 = .ok (.invokevirtual 49, 3) := by decide +kernel
theorem dX1_hasDesk_9 : decode cX1_hasDesk 9 = .ok (.if_icmp .ge 7, 3) := by decide +kernel
theorem dX1_hasDesk_12 : decode cX1_hasDesk 12 = .ok (.iconst 1, 1) := by decide +kernel
theorem dX1_hasDesk_13 : decode cX1_hasDesk 13 = .ok (.goto 4, 3) := by decide +kernel
theorem dX1_hasDesk_16 : decode cX1_hasDesk 16 = .ok (.iconst 0, 1) := by decide +kernel
theorem dX1_hasDesk_17 : decode cX1_hasDesk 17 = .ok (.ireturn, 1) := by decide +kernel
theorem dX1_everybody_0 : decode cX1_everybody 0 = .ok (.iconst 1, 1) := by decide +kernel
theorem dX1_everybody_1 : decode cX1_everybody 1 = .ok (.aload_n 0, 1) := by decide +kernel
theorem dX1_everybody_2 : decode cX1_everybody 2 = .ok (.getfield 15, 3) := by decide +kernel
theorem dX1_everybody_5 : decode cX1_everybody 5 = .ok (.ishl, 1) := by decide +kernel
theorem dX1_everybody_6 : decode cX1_everybody 6 = .ok (.iconst 1, 1) := by decide +kernel
theorem dX1_everybody_7 : decode cX1_everybody 7 = .ok (.isub, 1) := by decide +kernel
theorem dX1_everybody_8 : decode cX1_everybody 8 = .ok (.ireturn, 1) := by decide +kernel
theorem dX1_kindOf_0 : decode cX1_kindOf 0 = .ok (.aload_n 0, 1) := by decide +kernel
theorem dX1_kindOf_1 : decode cX1_kindOf 1 = .ok (.iload_n 1, 1) := by decide +kernel
theorem dX1_kindOf_2 : decode cX1_kindOf 2 = .ok (.invokevirtual 53, 3) := by decide +kernel
theorem dX1_kindOf_5 : decode cX1_kindOf 5 = .ok (.ifCond .eq 12, 3) := by decide +kernel
theorem dX1_kindOf_8 : decode cX1_kindOf 8 = .ok (.aload_n 0, 1) := by decide +kernel
theorem dX1_kindOf_9 : decode cX1_kindOf 9 = .ok (.getfield 27, 3) := by decide +kernel
theorem dX1_kindOf_12 : decode cX1_kindOf 12 = .ok (.iload_n 1, 1) := by decide +kernel
theorem dX1_kindOf_13 : decode cX1_kindOf 13 = .ok (.iaload, 1) := by decide +kernel
theorem dX1_kindOf_14 : decode cX1_kindOf 14 = .ok (.goto 4, 3) := by decide +kernel
theorem dX1_kindOf_17 : decode cX1_kindOf 17 = .ok (.iconst (-1), 1) := by decide +kernel
theorem dX1_kindOf_18 : decode cX1_kindOf 18 = .ok (.ireturn, 1) := by decide +kernel
theorem dX1_deskOf_0 : decode cX1_deskOf 0 = .ok (.aload_n 0, 1) := by decide +kernel
theorem dX1_deskOf_1 : decode cX1_deskOf 1 = .ok (.iload_n 1, 1) := by decide +kernel
theorem dX1_deskOf_2 : decode cX1_deskOf 2 = .ok (.invokevirtual 53, 3) := by decide +kernel
theorem dX1_deskOf_5 : decode cX1_deskOf 5 = .ok (.ifCond .eq 12, 3) := by decide +kernel
theorem dX1_deskOf_8 : decode cX1_deskOf 8 = .ok (.aload_n 0, 1) := by decide +kernel
theorem dX1_deskOf_9 : decode cX1_deskOf 9 = .ok (.getfield 31, 3) := by decide +kernel
theorem dX1_deskOf_12 : decode cX1_deskOf 12 = .ok (.iload_n 1, 1) := by decide +kernel
theorem dX1_deskOf_13 : decode cX1_deskOf 13 = .ok (.iaload, 1) := by decide +kernel
theorem dX1_deskOf_14 : decode cX1_deskOf 14 = .ok (.goto 4, 3) := by decide +kernel
theorem dX1_deskOf_17 : decode cX1_deskOf 17 = .ok (.iconst (-1), 1) := by decide +kernel
theorem dX1_deskOf_18 : decode cX1_deskOf 18 = .ok (.ireturn, 1) := by decide +kernel
theorem dX1_markOf_0 : decode cX1_markOf 0 = .ok (.aload_n 0, 1) := by decide +kernel
theorem dX1_markOf_1 : decode cX1_markOf 1 = .ok (.iload_n 1, 1) := by decide +kernel
theorem dX1_markOf_2 : decode cX1_markOf 2 = .ok (.invokevirtual 53, 3) := by decide +kernel
theorem dX1_markOf_5 : decode cX1_markOf 5 = .ok (.ifCond .eq 12, 3) := by decide +kernel
theorem dX1_markOf_8 : decode cX1_markOf 8 = .ok (.aload_n 0, 1) := by decide +kernel
theorem dX1_markOf_9 : decode cX1_markOf 9 = .ok (.getfield 34, 3) := by decide +kernel
theorem dX1_markOf_12 : decode cX1_markOf 12 = .ok (.iload_n 1, 1) := by decide +kernel
theorem dX1_markOf_13 : decode cX1_markOf 13 = .ok (.iaload, 1) := by decide +kernel
theorem dX1_markOf_14 : decode cX1_markOf 14 = .ok (.goto 4, 3) := by decide +kernel
theorem dX1_markOf_17 : decode cX1_markOf 17 = .ok (.iconst (-1), 1) := by decide +kernel
theorem dX1_markOf_18 : decode cX1_markOf 18 = .ok (.ireturn, 1) := by decide +kernel
theorem dX1_nearOf_0 : decode cX1_nearOf 0 = .ok (.aload_n 0, 1) := by decide +kernel
theorem dX1_nearOf_1 : decode cX1_nearOf 1 = .ok (.iload_n 1, 1) := by decide +kernel
theorem dX1_nearOf_2 : decode cX1_nearOf 2 = .ok (.invokevirtual 53, 3) := by decide +kernel
theorem dX1_nearOf_5 : decode cX1_nearOf 5 = .ok (.ifCond .eq 12, 3) := by decide +kernel
theorem dX1_nearOf_8 : decode cX1_nearOf 8 = .ok (.aload_n 0, 1) := by decide +kernel
theorem dX1_nearOf_9 : decode cX1_nearOf 9 = .ok (.getfield 40, 3) := by decide +kernel
theorem dX1_nearOf_12 : decode cX1_nearOf 12 = .ok (.iload_n 1, 1) := by decide +kernel
theorem dX1_nearOf_13 : decode cX1_nearOf 13 = .ok (.iaload, 1) := by decide +kernel
theorem dX1_nearOf_14 : decode cX1_nearOf 14 = .ok (.goto 4, 3) := by decide +kernel
theorem dX1_nearOf_17 : decode cX1_nearOf 17 = .ok (.iconst 0, 1) := by decide +kernel
theorem dX1_nearOf_18 : decode cX1_nearOf 18 = .ok (.ireturn, 1) := by decide +kernel
theorem dX1_barredOf_0 : decode cX1_barredOf 0 = .ok (.aload_n 0, 1) := by decide +kernel
theorem dX1_barredOf_1 : decode cX1_barredOf 1 = .ok (.iload_n 1, 1) := by decide +kernel
theorem dX1_barredOf_2 : decode cX1_barredOf 2 = .ok (.invokevirtual 53, 3) := by decide +kernel
theorem dX1_barredOf_5 : decode cX1_barredOf 5 = .ok (.ifCond .eq 12, 3) := by decide +kernel
theorem dX1_barredOf_8 : decode cX1_barredOf 8 = .ok (.aload_n 0, 1) := by decide +kernel
theorem dX1_barredOf_9 : decode cX1_barredOf 9 = .ok (.getfield 37, 3) := by decide +kernel
theorem dX1_barredOf_12 : decode cX1_barredOf 12 = .ok (.iload_n 1, 1) := by decide +kernel
theorem dX1_barredOf_13 : decode cX1_barredOf 13 = .ok (.iaload, 1) := by decide +kernel
theorem dX1_barredOf_14 : decode cX1_barredOf 14 = .ok (.goto 4, 3) := by decide +kernel
theorem dX1_barredOf_17 : decode cX1_barredOf 17 = .ok (.iconst 0, 1) := by decide +kernel
theorem dX1_barredOf_18 : decode cX1_barredOf 18 = .ok (.ireturn, 1) := by decide +kernel
theorem dX1_neighboursOf_0 : decode cX1_neighboursOf 0 = .ok (.aload_n 0, 1) := by decide +kernel
theorem dX1_neighboursOf_1 : decode cX1_neighboursOf 1 = .ok (.iload_n 1, 1) := by decide +kernel
theorem dX1_neighboursOf_2 : decode cX1_neighboursOf 2 = .ok (.invokevirtual 57, 3) := by decide +kernel
theorem dX1_neighboursOf_5 : decode cX1_neighboursOf 5 = .ok (.invokestatic 61, 3) := by decide +kernel
theorem dX1_neighboursOf_8 : decode cX1_neighboursOf 8 = .ok (.ireturn, 1) := by decide +kernel
theorem dX1_holderOf_0 : decode cX1_holderOf 0 = .ok (.iconst 0, 1) := by decide +kernel
theorem dX1_holderOf_1 : decode cX1_holderOf 1 = .ok (.istore_n 2, 1) := by decide +kernel
theorem dX1_holderOf_2 : decode cX1_holderOf 2 = .ok (.iload_n 2, 1) := by decide +kernel
theorem dX1_holderOf_3 : decode cX1_holderOf 3 = .ok (.aload_n 0, 1) := by decide +kernel
theorem dX1_holderOf_4 : decode cX1_holderOf 4 = .ok (.getfield 15, 3) := by decide +kernel
theorem dX1_holderOf_7 : decode cX1_holderOf 7 = .ok (.if_icmp .ge 27, 3) := by decide +kernel
theorem dX1_holderOf_10 : decode cX1_holderOf 10 = .ok (.iload_n 2, 1) := by decide +kernel
theorem dX1_holderOf_11 : decode cX1_holderOf 11 = .ok (.bipush 12, 2) := by decide +kernel
theorem dX1_holderOf_13 : decode cX1_holderOf 13 = .ok (.if_icmp .ge 21, 3) := by decide +kernel
theorem dX1_holderOf_16 : decode cX1_holderOf 16 = .ok (.aload_n 0, 1) := by decide +kernel
theorem dX1_holderOf_17 : decode cX1_holderOf 17 = .ok (.getfield 31, 3) := by decide +kernel
theorem dX1_holderOf_20 : decode cX1_holderOf 20 = .ok (.iload_n 2, 1) := by decide +kernel
theorem dX1_holderOf_21 : decode cX1_holderOf 21 = .ok (.iaload, 1) := by decide +kernel
theorem dX1_holderOf_22 : decode cX1_holderOf 22 = .ok (.iload_n 1, 1) := by decide +kernel
theorem dX1_holderOf_23 : decode cX1_holderOf 23 = .ok (.if_icmp .ne 5, 3) := by decide +kernel
theorem dX1_holderOf_26 : decode cX1_holderOf 26 = .ok (.iload_n 2, 1) := by decide +kernel
theorem dX1_holderOf_27 : decode cX1_holderOf 27 = .ok (.ireturn, 1) := by decide +kernel
theorem dX1_holderOf_28 : decode cX1_holderOf 28 = .ok (.iinc 2 1, 3) := by decide +kernel
theorem dX1_holderOf_31 : decode cX1_holderOf 31 = .ok (.goto (-29), 3) := by decide +kernel
theorem dX1_holderOf_34 : decode cX1_holderOf 34 = .ok (.iconst (-1), 1) := by decide +kernel
theorem dX1_holderOf_35 : decode cX1_holderOf 35 = .ok (.ireturn, 1) := by decide +kernel
theorem dX1_seat_0 : decode cX1_seat 0 = .ok (.aload_n 0, 1) := by decide +kernel
theorem dX1_seat_1 : decode cX1_seat 1 = .ok (.getfield 15, 3) := by decide +kernel
theorem dX1_seat_4 : decode cX1_seat 4 = .ok (.ifCond .lt 12, 3) := by decide +kernel
theorem dX1_seat_7 : decode cX1_seat 7 = .ok (.aload_n 0, 1) := by decide +kernel
theorem dX1_seat_8 : decode cX1_seat 8 = .ok (.getfield 15, 3) := by decide +kernel
theorem dX1_seat_11 : decode cX1_seat 11 = .ok (.bipush 12, 2) := by decide +kernel
theorem dX1_seat_13 : decode cX1_seat 13 = .ok (.if_icmp .lt 5, 3) := by decide +kernel
theorem dX1_seat_16 : decode cX1_seat 16 = .ok (.iconst (-1), 1) := by decide +kernel
theorem dX1_seat_17 : decode cX1_seat 17 = .ok (.ireturn, 1) := by decide +kernel
theorem dX1_seat_18 : decode cX1_seat 18 = .ok (.aload_n 0, 1) := by decide +kernel
theorem dX1_seat_19 : decode cX1_seat 19 = .ok (.getfield 15, 3) := by decide +kernel
theorem dX1_seat_22 : decode cX1_seat 22 = .ok (.istore 4, 2) := by decide +kernel
theorem dX1_seat_24 : decode cX1_seat 24 = .ok (.aload_n 0, 1) := by decide +kernel
theorem dX1_seat_25 : decode cX1_seat 25 = .ok (.dup, 1) := by decide +kernel
theorem dX1_seat_26 : decode cX1_seat 26 = .ok (.getfield 15, 3) := by decide +kernel
theorem dX1_seat_29 : decode cX1_seat 29 = .ok (.iconst 1, 1) := by decide +kernel
theorem dX1_seat_30 : decode cX1_seat 30 = .ok (.iadd, 1) := by decide +kernel
theorem dX1_seat_31 : decode cX1_seat 31 = .ok (.putfield 15, 3) := by decide +kernel
theorem dX1_seat_34 : decode cX1_seat 34 = .ok (.aload_n 0, 1) := by decide +kernel
theorem dX1_seat_35 : decode cX1_seat 35 = .ok (.getfield 27, 3) := by decide +kernel
theorem dX1_seat_38 : decode cX1_seat 38 = .ok (.iload 4, 2) := by decide +kernel
theorem dX1_seat_40 : decode cX1_seat 40 = .ok (.iload_n 1, 1) := by decide +kernel
theorem dX1_seat_41 : decode cX1_seat 41 = .ok (.iastore, 1) := by decide +kernel
theorem dX1_seat_42 : decode cX1_seat 42 = .ok (.aload_n 0, 1) := by decide +kernel
theorem dX1_seat_43 : decode cX1_seat 43 = .ok (.getfield 31, 3) := by decide +kernel
theorem dX1_seat_46 : decode cX1_seat 46 = .ok (.iload 4, 2) := by decide +kernel
theorem dX1_seat_48 : decode cX1_seat 48 = .ok (.iload_n 2, 1) := by decide +kernel
theorem dX1_seat_49 : decode cX1_seat 49 = .ok (.iastore, 1) := by decide +kernel
theorem dX1_seat_50 : decode cX1_seat 50 = .ok (.aload_n 0, 1) := by decide +kernel
theorem dX1_seat_51 : decode cX1_seat 51 = .ok (.getfield 34, 3) := by decide +kernel
theorem dX1_seat_54 : decode cX1_seat 54 = .ok (.iload 4, 2) := by decide +kernel
theorem dX1_seat_56 : decode cX1_seat 56 = .ok (.iload_n 3, 1) := by decide +kernel
theorem dX1_seat_57 : decode cX1_seat 57 = .ok (.iastore, 1) := by decide +kernel
theorem dX1_seat_58 : decode cX1_seat 58 = .ok (.aload_n 0, 1) := by decide +kernel
theorem dX1_seat_59 : decode cX1_seat 59 = .ok (.getfield 37, 3) := by decide +kernel
theorem dX1_seat_62 : decode cX1_seat 62 = .ok (.iload 4, 2) := by decide +kernel
theorem dX1_seat_64 : decode cX1_seat 64 = .ok (.iconst 0, 1) := by decide +kernel
theorem dX1_seat_65 : decode cX1_seat 65 = .ok (.iastore, 1) := by decide +kernel
theorem dX1_seat_66 : decode cX1_seat 66 = .ok (.aload_n 0, 1) := by decide +kernel
theorem dX1_seat_67 : decode cX1_seat 67 = .ok (.invokevirtual 66, 3) := by decide +kernel
theorem dX1_seat_70 : decode cX1_seat 70 = .ok (.iload 4, 2) := by decide +kernel
theorem dX1_seat_72 : decode cX1_seat 72 = .ok (.ireturn, 1) := by decide +kernel
theorem dX1_reseat_0 : decode cX1_reseat 0 = .ok (.aload_n 0, 1) := by decide +kernel
theorem dX1_reseat_1 : decode cX1_reseat 1 = .ok (.iload_n 1, 1) := by decide +kernel
theorem dX1_reseat_2 : decode cX1_reseat 2 = .ok (.invokevirtual 53, 3) := by decide +kernel
theorem dX1_reseat_5 : decode cX1_reseat 5 = .ok (.ifCond .eq 14, 3) := by decide +kernel
theorem dX1_reseat_8 : decode cX1_reseat 8 = .ok (.aload_n 0, 1) := by decide +kernel
theorem dX1_reseat_9 : decode cX1_reseat 9 = .ok (.getfield 31, 3) := by decide +kernel
theorem dX1_reseat_12 : decode cX1_reseat 12 = .ok (.iload_n 1, 1) := by decide +kernel
theorem dX1_reseat_13 : decode cX1_reseat 13 = .ok (.iload_n 2, 1) := by decide +kernel
theorem dX1_reseat_14 : decode cX1_reseat 14 = .ok (.iastore, 1) := by decide +kernel
theorem dX1_reseat_15 : decode cX1_reseat 15 = .ok (.aload_n 0, 1) := by decide +kernel
theorem dX1_reseat_16 : decode cX1_reseat 16 = .ok (.invokevirtual 66, 3) := by decide +kernel
theorem dX1_reseat_19 : decode cX1_reseat 19 = .ok (.return_, 1) := by decide +kernel
theorem dX1_exchange_0 : decode cX1_exchange 0 = .ok (.aload_n 0, 1) := by decide +kernel
theorem dX1_exchange_1 : decode cX1_exchange 1 = .ok (.iload_n 1, 1) := by decide +kernel
theorem dX1_exchange_2 : decode cX1_exchange 2 = .ok (.invokevirtual 53, 3) := by decide +kernel
theorem dX1_exchange_5 : decode cX1_exchange 5 = .ok (.ifCond .eq 41, 3) := by decide +kernel
theorem dX1_exchange_8 : decode cX1_exchange 8 = .ok (.aload_n 0, 1) := by decide +kernel
theorem dX1_exchange_9 : decode cX1_exchange 9 = .ok (.iload_n 2, 1) := by decide +kernel
theorem dX1_exchange_10 : decode cX1_exchange 10 = .ok (.invokevirtual 53, 3) := by decide +kernel
theorem dX1_exchange_13 : decode cX1_exchange 13 = .ok (.ifCond .eq 33, 3) := by decide +kernel
theorem dX1_exchange_16 : decode cX1_exchange 16 = .ok (.aload_n 0, 1) := by decide +kernel
theorem dX1_exchange_17 : decode cX1_exchange 17 = .ok (.getfield 31, 3) := by decide +kernel
theorem dX1_exchange_20 : decode cX1_exchange 20 = .ok (.iload_n 1, 1) := by decide +kernel
theorem dX1_exchange_21 : decode cX1_exchange 21 = .ok (.iaload, 1) := by decide +kernel
theorem dX1_exchange_22 : decode cX1_exchange 22 = .ok (.istore_n 3, 1) := by decide +kernel
theorem dX1_exchange_23 : decode cX1_exchange 23 = .ok (.aload_n 0, 1) := by decide +kernel
theorem dX1_exchange_24 : decode cX1_exchange 24 = .ok (.getfield 31, 3) := by decide +kernel
theorem dX1_exchange_27 : decode cX1_exchange 27 = .ok (.iload_n 1, 1) := by decide +kernel
theorem dX1_exchange_28 : decode cX1_exchange 28 = .ok (.aload_n 0, 1) := by decide +kernel
theorem dX1_exchange_29 : decode cX1_exchange 29 = .ok (.getfield 31, 3) := by decide +kernel
theorem dX1_exchange_32 : decode cX1_exchange 32 = .ok (.iload_n 2, 1) := by decide +kernel
theorem dX1_exchange_33 : decode cX1_exchange 33 = .ok (.iaload, 1) := by decide +kernel
theorem dX1_exchange_34 : decode cX1_exchange 34 = .ok (.iastore, 1) := by decide +kernel
theorem dX1_exchange_35 : decode cX1_exchange 35 = .ok (.aload_n 0, 1) := by decide +kernel
theorem dX1_exchange_36 : decode cX1_exchange 36 = .ok (.getfield 31, 3) := by decide +kernel
theorem dX1_exchange_39 : decode cX1_exchange 39 = .ok (.iload_n 2, 1) := by decide +kernel
theorem dX1_exchange_40 : decode cX1_exchange 40 = .ok (.iload_n 3, 1) := by decide +kernel
theorem dX1_exchange_41 : decode cX1_exchange 41 = .ok (.iastore, 1) := by decide +kernel
theorem dX1_exchange_42 : decode cX1_exchange 42 = .ok (.aload_n 0, 1) := by decide +kernel
theorem dX1_exchange_43 : decode cX1_exchange 43 = .ok (.invokevirtual 66, 3) := by decide +kernel
theorem dX1_exchange_46 : decode cX1_exchange 46 = .ok (.return_, 1) := by decide +kernel
theorem dX1_areBarred_0 : decode cX1_areBarred 0 = .ok (.aload_n 0, 1) := by decide +kernel
theorem dX1_areBarred_1 : decode cX1_areBarred 1 = .ok (.iload_n 1, 1) := by decide +kernel
theorem dX1_areBarred_2 : decode cX1_areBarred 2 = .ok (.invokevirtual 69, 3) := by decide +kernel
theorem dX1_areBarred_5 : decode cX1_areBarred 5 = .ok (.iload_n 2, 1) := by decide +kernel
theorem dX1_areBarred_6 : decode cX1_areBarred 6 = .ok (.ishr, 1) := by decide +kernel
theorem dX1_areBarred_7 : decode cX1_areBarred 7 = .ok (.iconst 1, 1) := by decide +kernel
theorem dX1_areBarred_8 : decode cX1_areBarred 8 = .ok (.iand, 1) := by decide +kernel
theorem dX1_areBarred_9 : decode cX1_areBarred 9 = .ok (.ifCond .eq 7, 3) := by decide +kernel
theorem dX1_areBarred_12 : decode cX1_areBarred 12 = .ok (.iconst 1, 1) := by decide +kernel
theorem dX1_areBarred_13 : decode cX1_areBarred 13 = .ok (.goto 4, 3) := by decide +kernel
theorem dX1_areBarred_16 : decode cX1_areBarred 16 = .ok (.iconst 0, 1) := by decide +kernel
theorem dX1_areBarred_17 : decode cX1_areBarred 17 = .ok (.ireturn, 1) := by decide +kernel
theorem dX1_setBarred_0 : decode cX1_setBarred 0 = .ok (.aload_n 0, 1) := by decide +kernel
theorem dX1_setBarred_1 : decode cX1_setBarred 1 = .ok (.iload_n 1, 1) := by decide +kernel
theorem dX1_setBarred_2 : decode cX1_setBarred 2 = .ok (.invokevirtual 53, 3) := by decide +kernel
theorem dX1_setBarred_5 : decode cX1_setBarred 5 = .ok (.ifCond .eq 85, 3) := by decide +kernel
theorem dX1_setBarred_8 : decode cX1_setBarred 8 = .ok (.aload_n 0, 1) := by decide +kernel
theorem dX1_setBarred_9 : decode cX1_setBarred 9 = .ok (.iload_n 2, 1) := by decide +kernel
theorem dX1_setBarred_10 : decode cX1_setBarred 10 = .ok (.invokevirtual 53, 3) := by decide +kernel
theorem dX1_setBarred_13 : decode cX1_setBarred 13 = .ok (.ifCond .eq 77, 3) := by decide +kernel
theorem dX1_setBarred_16 : decode cX1_setBarred 16 = .ok (.aload_n 0, 1) := by decide +kernel
theorem dX1_setBarred_17 : decode cX1_setBarred 17 = .ok (.getfield 37, 3) := by decide +kernel
theorem dX1_setBarred_20 : decode cX1_setBarred 20 = .ok (.iload_n 1, 1) := by decide +kernel
theorem dX1_setBarred_21 : decode cX1_setBarred 21 = .ok (.iload_n 3, 1) := by decide +kernel
theorem dX1_setBarred_22 : decode cX1_setBarred 22 = .ok (.ifCond .eq 16, 3) := by decide +kernel
theorem dX1_setBarred_25 : decode cX1_setBarred 25 = .ok (.aload_n 0, 1) := by decide +kernel
theorem dX1_setBarred_26 : decode cX1_setBarred 26 = .ok (.getfield 37, 3) := by decide +kernel
theorem dX1_setBarred_29 : decode cX1_setBarred 29 = .ok (.iload_n 1, 1) := by decide +kernel
theorem dX1_setBarred_30 : decode cX1_setBarred 30 = .ok (.iaload, 1) := by decide +kernel
theorem dX1_setBarred_31 : decode cX1_setBarred 31 = .ok (.iconst 1, 1) := by decide +kernel
theorem dX1_setBarred_32 : decode cX1_setBarred 32 = .ok (.iload_n 2, 1) := by decide +kernel
theorem dX1_setBarred_33 : decode cX1_setBarred 33 = .ok (.ishl, 1) := by decide +kernel
theorem dX1_setBarred_34 : decode cX1_setBarred 34 = .ok (.ior, 1) := by decide +kernel
theorem dX1_setBarred_35 : decode cX1_setBarred 35 = .ok (.goto 15, 3) := by decide +kernel
theorem dX1_setBarred_38 : decode cX1_setBarred 38 = .ok (.aload_n 0, 1) := by decide +kernel
theorem dX1_setBarred_39 : decode cX1_setBarred 39 = .ok (.getfield 37, 3) := by decide +kernel
theorem dX1_setBarred_42 : decode cX1_setBarred 42 = .ok (.iload_n 1, 1) := by decide +kernel
theorem dX1_setBarred_43 : decode cX1_setBarred 43 = .ok (.iaload, 1) := by decide +kernel
theorem dX1_setBarred_44 : decode cX1_setBarred 44 = .ok (.iconst 1, 1) := by decide +kernel
theorem dX1_setBarred_45 : decode cX1_setBarred 45 = .ok (.iload_n 2, 1) := by decide +kernel
theorem dX1_setBarred_46 : decode cX1_setBarred 46 = .ok (.ishl, 1) := by decide +kernel
theorem dX1_setBarred_47 : decode cX1_setBarred 47 = .ok (.iconst (-1), 1) := by decide +kernel
theorem dX1_setBarred_48 : decode cX1_setBarred 48 = .ok (.ixor, 1) := by decide +kernel
theorem dX1_setBarred_49 : decode cX1_setBarred 49 = .ok (.iand, 1) := by decide +kernel
theorem dX1_setBarred_50 : decode cX1_setBarred 50 = .ok (.iastore, 1) := by decide +kernel
theorem dX1_setBarred_51 : decode cX1_setBarred 51 = .ok (.aload_n 0, 1) := by decide +kernel
theorem dX1_setBarred_52 : decode cX1_setBarred 52 = .ok (.getfield 37, 3) := by decide +kernel
theorem dX1_setBarred_55 : decode cX1_setBarred 55 = .ok (.iload_n 2, 1) := by decide +kernel
theorem dX1_setBarred_56 : decode cX1_setBarred 56 = .ok (.iload_n 3, 1) := by decide +kernel
theorem dX1_setBarred_57 : decode cX1_setBarred 57 = .ok (.ifCond .eq 16, 3) := by decide +kernel
theorem dX1_setBarred_60 : decode cX1_setBarred 60 = .ok (.aload_n 0, 1) := by decide +kernel
theorem dX1_setBarred_61 : decode cX1_setBarred 61 = .ok (.getfield 37, 3) := by decide +kernel
theorem dX1_setBarred_64 : decode cX1_setBarred 64 = .ok (.iload_n 2, 1) := by decide +kernel
theorem dX1_setBarred_65 : decode cX1_setBarred 65 = .ok (.iaload, 1) := by decide +kernel
theorem dX1_setBarred_66 : decode cX1_setBarred 66 = .ok (.iconst 1, 1) := by decide +kernel
theorem dX1_setBarred_67 : decode cX1_setBarred 67 = .ok (.iload_n 1, 1) := by decide +kernel
theorem dX1_setBarred_68 : decode cX1_setBarred 68 = .ok (.ishl, 1) := by decide +kernel
theorem dX1_setBarred_69 : decode cX1_setBarred 69 = .ok (.ior, 1) := by decide +kernel
theorem dX1_setBarred_70 : decode cX1_setBarred 70 = .ok (.goto 15, 3) := by decide +kernel
theorem dX1_setBarred_73 : decode cX1_setBarred 73 = .ok (.aload_n 0, 1) := by decide +kernel
theorem dX1_setBarred_74 : decode cX1_setBarred 74 = .ok (.getfield 37, 3) := by decide +kernel
theorem dX1_setBarred_77 : decode cX1_setBarred 77 = .ok (.iload_n 2, 1) := by decide +kernel
theorem dX1_setBarred_78 : decode cX1_setBarred 78 = .ok (.iaload, 1) := by decide +kernel
theorem dX1_setBarred_79 : decode cX1_setBarred 79 = .ok (.iconst 1, 1) := by decide +kernel
theorem dX1_setBarred_80 : decode cX1_setBarred 80 = .ok (.iload_n 1, 1) := by decide +kernel
theorem dX1_setBarred_81 : decode cX1_setBarred 81 = .ok (.ishl, 1) := by decide +kernel
theorem dX1_setBarred_82 : decode cX1_setBarred 82 = .ok (.iconst (-1), 1) := by decide +kernel
theorem dX1_setBarred_83 : decode cX1_setBarred 83 = .ok (.ixor, 1) := by decide +kernel
theorem dX1_setBarred_84 : decode cX1_setBarred 84 = .ok (.iand, 1) := by decide +kernel
theorem dX1_setBarred_85 : decode cX1_setBarred 85 = .ok (.iastore, 1) := by decide +kernel
theorem dX1_setBarred_86 : decode cX1_setBarred 86 = .ok (.aload_n 0, 1) := by decide +kernel
theorem dX1_setBarred_87 : decode cX1_setBarred 87 = .ok (.invokevirtual 66, 3) := by decide +kernel
theorem dX1_setBarred_90 : decode cX1_setBarred 90 = .ok (.return_, 1) := by decide +kernel
theorem dX1_barredPairs_0 : decode cX1_barredPairs 0 = .ok (.iconst 0, 1) := by decide +kernel
theorem dX1_barredPairs_1 : decode cX1_barredPairs 1 = .ok (.istore_n 1, 1) := by decide +kernel
theorem dX1_barredPairs_2 : decode cX1_barredPairs 2 = .ok (.iconst 0, 1) := by decide +kernel
theorem dX1_barredPairs_3 : decode cX1_barredPairs 3 = .ok (.istore_n 2, 1) := by decide +kernel
theorem dX1_barredPairs_4 : decode cX1_barredPairs 4 = .ok (.iload_n 2, 1) := by decide +kernel
theorem dX1_barredPairs_5 : decode cX1_barredPairs 5 = .ok (.aload_n 0, 1) := by decide +kernel
theorem dX1_barredPairs_6 : decode cX1_barredPairs 6 = .ok (.getfield 15, 3) := by decide +kernel
theorem dX1_barredPairs_9 : decode cX1_barredPairs 9 = .ok (.if_icmp .ge 20, 3) := by decide +kernel
theorem dX1_barredPairs_12 : decode cX1_barredPairs 12 = .ok (.iload_n 1, 1) := by decide +kernel
theorem dX1_barredPairs_13 : decode cX1_barredPairs 13 = .ok (.aload_n 0, 1) := by decide +kernel
theorem dX1_barredPairs_14 : decode cX1_barredPairs 14 = .ok (.iload_n 2, 1) := by decide +kernel
theorem dX1_barredPairs_15 : decode cX1_barredPairs 15 = .ok (.invokevirtual 69, 3) := by decide +kernel
theorem dX1_barredPairs_18 : decode cX1_barredPairs 18 = .ok (.invokestatic 61, 3) := by decide +kernel
theorem dX1_barredPairs_21 : decode cX1_barredPairs 21 = .ok (.iadd, 1) := by decide +kernel
theorem dX1_barredPairs_22 : decode cX1_barredPairs 22 = .ok (.istore_n 1, 1) := by decide +kernel
theorem dX1_barredPairs_23 : decode cX1_barredPairs 23 = .ok (.iinc 2 1, 3) := by decide +kernel
theorem dX1_barredPairs_26 : decode cX1_barredPairs 26 = .ok (.goto (-22), 3) := by decide +kernel
theorem dX1_barredPairs_29 : decode cX1_barredPairs 29 = .ok (.iload_n 1, 1) := by decide +kernel
theorem dX1_barredPairs_30 : decode cX1_barredPairs 30 = .ok (.iconst 2, 1) := by decide +kernel
theorem dX1_barredPairs_31 : decode cX1_barredPairs 31 = .ok (.idiv, 1) := by decide +kernel
theorem dX1_barredPairs_32 : decode cX1_barredPairs 32 = .ok (.ireturn, 1) := by decide +kernel
theorem dX1_link_0 : decode cX1_link 0 = .ok (.iconst 0, 1) := by decide +kernel
theorem dX1_link_1 : decode cX1_link 1 = .ok (.istore_n 1, 1) := by decide +kernel
theorem dX1_link_2 : decode cX1_link 2 = .ok (.iload_n 1, 1) := by decide +kernel
theorem dX1_link_3 : decode cX1_link 3 = .ok (.aload_n 0, 1) := by decide +kernel
theorem dX1_link_4 : decode cX1_link 4 = .ok (.getfield 15, 3) := by decide +kernel
theorem dX1_link_7 : decode cX1_link 7 = .ok (.if_icmp .ge 87, 3) := by decide +kernel
theorem dX1_link_10 : decode cX1_link 10 = .ok (.iload_n 1, 1) := by decide +kernel
theorem dX1_link_11 : decode cX1_link 11 = .ok (.bipush 12, 2) := by decide +kernel
theorem dX1_link_13 : decode cX1_link 13 = .ok (.if_icmp .ge 81, 3) := by decide +kernel
theorem dX1_link_16 : decode cX1_link 16 = .ok (.aload_n 0, 1) := by decide +kernel
theorem dX1_link_17 : decode cX1_link 17 = .ok (.getfield 40, 3) := by decide +kernel
theorem dX1_link_20 : decode cX1_link 20 = .ok (.iload_n 1, 1) := by decide +kernel
theorem dX1_link_21 : decode cX1_link 21 = .ok (.iconst 0, 1) := by decide +kernel
theorem dX1_link_22 : decode cX1_link 22 = .ok (.iastore, 1) := by decide +kernel
theorem dX1_link_23 : decode cX1_link 23 = .ok (.iconst 0, 1) := by decide +kernel
theorem dX1_link_24 : decode cX1_link 24 = .ok (.istore_n 2, 1) := by decide +kernel
theorem dX1_link_25 : decode cX1_link 25 = .ok (.iload_n 2, 1) := by decide +kernel
theorem dX1_link_26 : decode cX1_link 26 = .ok (.aload_n 0, 1) := by decide +kernel
theorem dX1_link_27 : decode cX1_link 27 = .ok (.getfield 15, 3) := by decide +kernel
theorem dX1_link_30 : decode cX1_link 30 = .ok (.if_icmp .ge 58, 3) := by decide +kernel
theorem dX1_link_33 : decode cX1_link 33 = .ok (.iload_n 2, 1) := by decide +kernel
theorem dX1_link_34 : decode cX1_link 34 = .ok (.bipush 12, 2) := by decide +kernel
theorem dX1_link_36 : decode cX1_link 36 = .ok (.if_icmp .ge 52, 3) := by decide +kernel
theorem dX1_link_39 : decode cX1_link 39 = .ok (.aload_n 0, 1) := by decide +kernel
theorem dX1_link_40 : decode cX1_link 40 = .ok (.getfield 31, 3) := by decide +kernel
theorem dX1_link_43 : decode cX1_link 43 = .ok (.iload_n 1, 1) := by decide +kernel
theorem dX1_link_44 : decode cX1_link 44 = .ok (.iaload, 1) := by decide +kernel
theorem dX1_link_45 : decode cX1_link 45 = .ok (.aload_n 0, 1) := by decide +kernel
theorem dX1_link_46 : decode cX1_link 46 = .ok (.getfield 31, 3) := by decide +kernel
theorem dX1_link_49 : decode cX1_link 49 = .ok (.iload_n 2, 1) := by decide +kernel
theorem dX1_link_50 : decode cX1_link 50 = .ok (.iaload, 1) := by decide +kernel
theorem dX1_link_51 : decode cX1_link 51 = .ok (.invokestatic 72, 3) := by decide +kernel
theorem dX1_link_54 : decode cX1_link 54 = .ok (.ifCond .eq 28, 3) := by decide +kernel
theorem dX1_link_57 : decode cX1_link 57 = .ok (.aload_n 0, 1) := by decide +kernel
theorem dX1_link_58 : decode cX1_link 58 = .ok (.getfield 37, 3) := by decide +kernel
theorem dX1_link_61 : decode cX1_link 61 = .ok (.iload_n 1, 1) := by decide +kernel
theorem dX1_link_62 : decode cX1_link 62 = .ok (.iaload, 1) := by decide +kernel
theorem dX1_link_63 : decode cX1_link 63 = .ok (.iload_n 2, 1) := by decide +kernel
theorem dX1_link_64 : decode cX1_link 64 = .ok (.ishr, 1) := by decide +kernel
theorem dX1_link_65 : decode cX1_link 65 = .ok (.iconst 1, 1) := by decide +kernel
theorem dX1_link_66 : decode cX1_link 66 = .ok (.iand, 1) := by decide +kernel
theorem dX1_link_67 : decode cX1_link 67 = .ok (.ifCond .ne 15, 3) := by decide +kernel
theorem dX1_link_70 : decode cX1_link 70 = .ok (.aload_n 0, 1) := by decide +kernel
theorem dX1_link_71 : decode cX1_link 71 = .ok (.getfield 40, 3) := by decide +kernel
theorem dX1_link_74 : decode cX1_link 74 = .ok (.iload_n 1, 1) := by decide +kernel
theorem dX1_link_75 : decode cX1_link 75 = .ok (.dup2, 1) := by decide +kernel
theorem dX1_link_76 : decode cX1_link 76 = .ok (.iaload, 1) := by decide +kernel
theorem dX1_link_77 : decode cX1_link 77 = .ok (.iconst 1, 1) := by decide +kernel
theorem dX1_link_78 : decode cX1_link 78 = .ok (.iload_n 2, 1) := by decide +kernel
theorem dX1_link_79 : decode cX1_link 79 = .ok (.ishl, 1) := by decide +kernel
theorem dX1_link_80 : decode cX1_link 80 = .ok (.ior, 1) := by decide +kernel
theorem dX1_link_81 : decode cX1_link 81 = .ok (.iastore, 1) := by decide +kernel
theorem dX1_link_82 : decode cX1_link 82 = .ok (.iinc 2 1, 3) := by decide +kernel
theorem dX1_link_85 : decode cX1_link 85 = .ok (.goto (-60), 3) := by decide +kernel
theorem dX1_link_88 : decode cX1_link 88 = .ok (.iinc 1 1, 3) := by decide +kernel
theorem dX1_link_91 : decode cX1_link 91 = .ok (.goto (-89), 3) := by decide +kernel
theorem dX1_link_94 : decode cX1_link 94 = .ok (.return_, 1) := by decide +kernel
theorem dX1_areBeside_0 : decode cX1_areBeside 0 = .ok (.iload_n 0, 1) := by decide +kernel
theorem dX1_areBeside_1 : decode cX1_areBeside 1 = .ok (.iconst 4, 1) := by decide +kernel
theorem dX1_areBeside_2 : decode cX1_areBeside 2 = .ok (.idiv, 1) := by decide +kernel
theorem dX1_areBeside_3 : decode cX1_areBeside 3 = .ok (.iload_n 1, 1) := by decide +kernel
theorem dX1_areBeside_4 : decode cX1_areBeside 4 = .ok (.iconst 4, 1) := by decide +kernel
theorem dX1_areBeside_5 : decode cX1_areBeside 5 = .ok (.idiv, 1) := by decide +kernel
theorem dX1_areBeside_6 : decode cX1_areBeside 6 = .ok (.isub, 1) := by decide +kernel
theorem dX1_areBeside_7 : decode cX1_areBeside 7 = .ok (.invokestatic 76, 3) := by decide +kernel
theorem dX1_areBeside_10 : decode cX1_areBeside 10 = .ok (.iload_n 0, 1) := by decide +kernel
theorem dX1_areBeside_11 : decode cX1_areBeside 11 = .ok (.iconst 4, 1) := by decide +kernel
theorem dX1_areBeside_12 : decode cX1_areBeside 12 = .ok (.irem, 1) := by decide +kernel
theorem dX1_areBeside_13 : decode cX1_areBeside 13 = .ok (.iload_n 1, 1) := by decide +kernel
theorem dX1_areBeside_14 : decode cX1_areBeside 14 = .ok (.iconst 4, 1) := by decide +kernel
theorem dX1_areBeside_15 : decode cX1_areBeside 15 = .ok (.irem, 1) := by decide +kernel
theorem dX1_areBeside_16 : decode cX1_areBeside 16 = .ok (.isub, 1) := by decide +kernel
theorem dX1_areBeside_17 : decode cX1_areBeside 17 = .ok (.invokestatic 76, 3) := by decide +kernel
theorem dX1_areBeside_20 : decode cX1_areBeside 20 = .ok (.iadd, 1) := by decide +kernel
theorem dX1_areBeside_21 : decode cX1_areBeside 21 = .ok (.iconst 1, 1) := by decide +kernel
theorem dX1_areBeside_22 : decode cX1_areBeside 22 = .ok (.if_icmp .ne 7, 3) := by decide +kernel
theorem dX1_areBeside_25 : decode cX1_areBeside 25 = .ok (.iconst 1, 1) := by decide +kernel
theorem dX1_areBeside_26 : decode cX1_areBeside 26 = .ok (.goto 4, 3) := by decide +kernel
theorem dX1_areBeside_29 : decode cX1_areBeside 29 = .ok (.iconst 0, 1) := by decide +kernel
theorem dX1_areBeside_30 : decode cX1_areBeside 30 = .ok (.ireturn, 1) := by decide +kernel
theorem dX1_readersAmong_0 : decode cX1_readersAmong 0 = .ok (.iconst 0, 1) := by decide +kernel
theorem dX1_readersAmong_1 : decode cX1_readersAmong 1 = .ok (.istore_n 2, 1) := by decide +kernel
theorem dX1_readersAmong_2 : decode cX1_readersAmong 2 = .ok (.iconst 0, 1) := by decide +kernel
theorem dX1_readersAmong_3 : decode cX1_readersAmong 3 = .ok (.istore_n 3, 1) := by decide +kernel
theorem dX1_readersAmong_4 : decode cX1_readersAmong 4 = .ok (.iload_n 3, 1) := by decide +kernel
theorem dX1_readersAmong_5 : decode cX1_readersAmong 5 = .ok (.aload_n 0, 1) := by decide +kernel
theorem dX1_readersAmong_6 : decode cX1_readersAmong 6 = .ok (.getfield 15, 3) := by decide +kernel
theorem dX1_readersAmong_9 : decode cX1_readersAmong 9 = .ok (.if_icmp .ge 34, 3) := by decide +kernel
theorem dX1_readersAmong_12 : decode cX1_readersAmong 12 = .ok (.iload_n 1, 1) := by decide +kernel
theorem dX1_readersAmong_13 : decode cX1_readersAmong 13 = .ok (.iload_n 3, 1) := by decide +kernel
theorem dX1_readersAmong_14 : decode cX1_readersAmong 14 = .ok (.ishr, 1) := by decide +kernel
theorem dX1_readersAmong_15 : decode cX1_readersAmong 15 = .ok (.iconst 1, 1) := by decide +kernel
theorem dX1_readersAmong_16 : decode cX1_readersAmong 16 = .ok (.iand, 1) := by decide +kernel
theorem dX1_readersAmong_17 : decode cX1_readersAmong 17 = .ok (.ifCond .eq 20, 3) := by decide +kernel
theorem dX1_readersAmong_20 : decode cX1_readersAmong 20 = .ok (.aload_n 0, 1) := by decide +kernel
theorem dX1_readersAmong_21 : decode cX1_readersAmong 21 = .ok (.iload_n 3, 1) := by decide +kernel
theorem dX1_readersAmong_22 : decode cX1_readersAmong 22 = .ok (.invokevirtual 81, 3) := by decide +kernel
theorem dX1_readersAmong_25 : decode cX1_readersAmong 25 = .ok (.invokestatic 84, 3) := by decide +kernel
theorem dX1_readersAmong_28 : decode cX1_readersAmong 28 = .ok (.ifCond .eq 9, 3) := by decide +kernel
theorem dX1_readersAmong_31 : decode cX1_readersAmong 31 = .ok (.iload_n 2, 1) := by decide +kernel
theorem dX1_readersAmong_32 : decode cX1_readersAmong 32 = .ok (.iconst 1, 1) := by decide +kernel
theorem dX1_readersAmong_33 : decode cX1_readersAmong 33 = .ok (.iload_n 3, 1) := by decide +kernel
theorem dX1_readersAmong_34 : decode cX1_readersAmong 34 = .ok (.ishl, 1) := by decide +kernel
theorem dX1_readersAmong_35 : decode cX1_readersAmong 35 = .ok (.ior, 1) := by decide +kernel
theorem dX1_readersAmong_36 : decode cX1_readersAmong 36 = .ok (.istore_n 2, 1) := by decide +kernel
theorem dX1_readersAmong_37 : decode cX1_readersAmong 37 = .ok (.iinc 3 1, 3) := by decide +kernel
theorem dX1_readersAmong_40 : decode cX1_readersAmong 40 = .ok (.goto (-36), 3) := by decide +kernel
theorem dX1_readersAmong_43 : decode cX1_readersAmong 43 = .ok (.iload_n 2, 1) := by decide +kernel
theorem dX1_readersAmong_44 : decode cX1_readersAmong 44 = .ok (.ireturn, 1) := by decide +kernel
theorem dX1_reachOf_0 : decode cX1_reachOf 0 = .ok (.aload_n 0, 1) := by decide +kernel
theorem dX1_reachOf_1 : decode cX1_reachOf 1 = .ok (.iload_n 1, 1) := by decide +kernel
theorem dX1_reachOf_2 : decode cX1_reachOf 2 = .ok (.invokevirtual 57, 3) := by decide +kernel
theorem dX1_reachOf_5 : decode cX1_reachOf 5 = .ok (.istore_n 3, 1) := by decide +kernel
theorem dX1_reachOf_6 : decode cX1_reachOf 6 = .ok (.iconst 0, 1) := by decide +kernel
theorem dX1_reachOf_7 : decode cX1_reachOf 7 = .ok (.istore 4, 2) := by decide +kernel
theorem dX1_reachOf_9 : decode cX1_reachOf 9 = .ok (.iload 4, 2) := by decide +kernel
theorem dX1_reachOf_11 : decode cX1_reachOf 11 = .ok (.aload_n 0, 1) := by decide +kernel
theorem dX1_reachOf_12 : decode cX1_reachOf 12 = .ok (.getfield 15, 3) := by decide +kernel
theorem dX1_reachOf_15 : decode cX1_reachOf 15 = .ok (.if_icmp .ge 47, 3) := by decide +kernel
theorem dX1_reachOf_18 : decode cX1_reachOf 18 = .ok (.iconst 0, 1) := by decide +kernel
theorem dX1_reachOf_19 : decode cX1_reachOf 19 = .ok (.istore 5, 2) := by decide +kernel
theorem dX1_reachOf_21 : decode cX1_reachOf 21 = .ok (.iload 5, 2) := by decide +kernel
theorem dX1_reachOf_23 : decode cX1_reachOf 23 = .ok (.aload_n 0, 1) := by decide +kernel
theorem dX1_reachOf_24 : decode cX1_reachOf 24 = .ok (.getfield 15, 3) := by decide +kernel
theorem dX1_reachOf_27 : decode cX1_reachOf 27 = .ok (.if_icmp .ge 29, 3) := by decide +kernel
theorem dX1_reachOf_30 : decode cX1_reachOf 30 = .ok (.iload_n 3, 1) := by decide +kernel
theorem dX1_reachOf_31 : decode cX1_reachOf 31 = .ok (.iload_n 2, 1) := by decide +kernel
theorem dX1_reachOf_32 : decode cX1_reachOf 32 = .ok (.iand, 1) := by decide +kernel
theorem dX1_reachOf_33 : decode cX1_reachOf 33 = .ok (.iconst 1, 1) := by decide +kernel
theorem dX1_reachOf_34 : decode cX1_reachOf 34 = .ok (.iload 5, 2) := by decide +kernel
theorem dX1_reachOf_36 : decode cX1_reachOf 36 = .ok (.ishl, 1) := by decide +kernel
theorem dX1_reachOf_37 : decode cX1_reachOf 37 = .ok (.iand, 1) := by decide +kernel
theorem dX1_reachOf_38 : decode cX1_reachOf 38 = .ok (.ifCond .eq 12, 3) := by decide +kernel
theorem dX1_reachOf_41 : decode cX1_reachOf 41 = .ok (.iload_n 3, 1) := by decide +kernel
theorem dX1_reachOf_42 : decode cX1_reachOf 42 = .ok (.aload_n 0, 1) := by decide +kernel
theorem dX1_reachOf_43 : decode cX1_reachOf 43 = .ok (.iload 5, 2) := by decide +kernel
theorem dX1_reachOf_45 : decode cX1_reachOf 45 = .ok (.invokevirtual 57, 3) := by decide +kernel
theorem dX1_reachOf_48 : decode cX1_reachOf 48 = .ok (.ior, 1) := by decide +kernel
theorem dX1_reachOf_49 : decode cX1_reachOf 49 = .ok (.istore_n 3, 1) := by decide +kernel
theorem dX1_reachOf_50 : decode cX1_reachOf 50 = .ok (.iinc 5 1, 3) := by decide +kernel
theorem dX1_reachOf_53 : decode cX1_reachOf 53 = .ok (.goto (-32), 3) := by decide +kernel
theorem dX1_reachOf_56 : decode cX1_reachOf 56 = .ok (.iinc 4 1, 3) := by decide +kernel
theorem dX1_reachOf_59 : decode cX1_reachOf 59 = .ok (.goto (-50), 3) := by decide +kernel
theorem dX1_reachOf_62 : decode cX1_reachOf 62 = .ok (.iload_n 3, 1) := by decide +kernel
theorem dX1_reachOf_63 : decode cX1_reachOf 63 = .ok (.iconst 1, 1) := by decide +kernel
theorem dX1_reachOf_64 : decode cX1_reachOf 64 = .ok (.iload_n 1, 1) := by decide +kernel
theorem dX1_reachOf_65 : decode cX1_reachOf 65 = .ok (.ishl, 1) := by decide +kernel
theorem dX1_reachOf_66 : decode cX1_reachOf 66 = .ok (.iconst (-1), 1) := by decide +kernel
theorem dX1_reachOf_67 : decode cX1_reachOf 67 = .ok (.ixor, 1) := by decide +kernel
theorem dX1_reachOf_68 : decode cX1_reachOf 68 = .ok (.iand, 1) := by decide +kernel
theorem dX1_reachOf_69 : decode cX1_reachOf 69 = .ok (.ireturn, 1) := by decide +kernel
theorem dX1_looks_0 : decode cX1_looks 0 = .ok (.aload_n 0, 1) := by decide +kernel
theorem dX1_looks_1 : decode cX1_looks 1 = .ok (.getfield 18, 3) := by decide +kernel
theorem dX1_looks_4 : decode cX1_looks 4 = .ok (.iconst 1, 1) := by decide +kernel
theorem dX1_looks_5 : decode cX1_looks 5 = .ok (.if_icmp .lt 16, 3) := by decide +kernel
theorem dX1_looks_8 : decode cX1_looks 8 = .ok (.iload_n 1, 1) := by decide +kernel
theorem dX1_looks_9 : decode cX1_looks 9 = .ok (.aload_n 0, 1) := by decide +kernel
theorem dX1_looks_10 : decode cX1_looks 10 = .ok (.getfield 18, 3) := by decide +kernel
theorem dX1_looks_13 : decode cX1_looks 13 = .ok (.irem, 1) := by decide +kernel
theorem dX1_looks_14 : decode cX1_looks 14 = .ok (.aload_n 0, 1) := by decide +kernel
theorem dX1_looks_15 : decode cX1_looks 15 = .ok (.getfield 21, 3) := by decide +kernel
theorem dX1_looks_18 : decode cX1_looks 18 = .ok (.if_icmp .lt 7, 3) := by decide +kernel
theorem dX1_looks_21 : decode cX1_looks 21 = .ok (.iconst 1, 1) := by decide +kernel
theorem dX1_looks_22 : decode cX1_looks 22 = .ok (.goto 4, 3) := by decide +kernel
theorem dX1_looks_25 : decode cX1_looks 25 = .ok (.iconst 0, 1) := by decide +kernel
theorem dX1_looks_26 : decode cX1_looks 26 = .ok (.ireturn, 1) := by decide +kernel
theorem dX1_handOf_0 : decode cX1_handOf 0 = .ok (.aload_n 0, 1) := by decide +kernel
theorem dX1_handOf_1 : decode cX1_handOf 1 = .ok (.iload_n 1, 1) := by decide +kernel
theorem dX1_handOf_2 : decode cX1_handOf 2 = .ok (.invokevirtual 81, 3) := by decide +kernel
theorem dX1_handOf_5 : decode cX1_handOf 5 = .ok (.iconst 5, 1) := by decide +kernel
theorem dX1_handOf_6 : decode cX1_handOf 6 = .ok (.if_icmp .ne 7, 3) := by decide +kernel
theorem dX1_handOf_9 : decode cX1_handOf 9 = .ok (.iconst 2, 1) := by decide +kernel
theorem dX1_handOf_10 : decode cX1_handOf 10 = .ok (.goto 4, 3) := by decide +kernel
theorem dX1_handOf_13 : decode cX1_handOf 13 = .ok (.iconst 1, 1) := by decide +kernel
theorem dX1_handOf_14 : decode cX1_handOf 14 = .ok (.ireturn, 1) := by decide +kernel
theorem dX1_plainLossOf_0 : decode cX1_plainLossOf 0 = .ok (.aload_n 0, 1) := by decide +kernel
theorem dX1_plainLossOf_1 : decode cX1_plainLossOf 1 = .ok (.iload_n 1, 1) := by decide +kernel
theorem dX1_plainLossOf_2 : decode cX1_plainLossOf 2 = .ok (.invokevirtual 53, 3) := by decide +kernel
theorem dX1_plainLossOf_5 : decode cX1_plainLossOf 5 = .ok (.ifCond .ne 5, 3) := by decide +kernel
theorem dX1_plainLossOf_8 : decode cX1_plainLossOf 8 = .ok (.iconst 0, 1) := by decide +kernel
theorem dX1_plainLossOf_9 : decode cX1_plainLossOf 9 = .ok (.ireturn, 1) := by decide +kernel
theorem dX1_plainLossOf_10 : decode cX1_plainLossOf 10 = .ok (.aload_n 0, 1) := by decide +kernel
theorem dX1_plainLossOf_11 : decode cX1_plainLossOf 11 = .ok (.getfield 27, 3) := by decide +kernel
theorem dX1_plainLossOf_14 : decode cX1_plainLossOf 14 = .ok (.iload_n 1, 1) := by decide +kernel
theorem dX1_plainLossOf_15 : decode cX1_plainLossOf 15 = .ok (.iaload, 1) := by decide +kernel
theorem dX1_plainLossOf_16 : decode cX1_plainLossOf 16 = .ok (.lookupswitch 52 #[(1, 28), (4, 42)], 28) := by decide +kernel
theorem dX1_plainLossOf_44 : decode cX1_plainLossOf 44 = .ok (.sipush 500, 3) := by decide +kernel
theorem dX1_plainLossOf_47 : decode cX1_plainLossOf 47 = .ok (.bipush 10, 2) := by decide +kernel
theorem dX1_plainLossOf_49 : decode cX1_plainLossOf 49 = .ok (.aload_n 0, 1) := by decide +kernel
theorem dX1_plainLossOf_50 : decode cX1_plainLossOf 50 = .ok (.getfield 34, 3) := by decide +kernel
theorem dX1_plainLossOf_53 : decode cX1_plainLossOf 53 = .ok (.iload_n 1, 1) := by decide +kernel
theorem dX1_plainLossOf_54 : decode cX1_plainLossOf 54 = .ok (.iaload, 1) := by decide +kernel
theorem dX1_plainLossOf_55 : decode cX1_plainLossOf 55 = .ok (.imul, 1) := by decide +kernel
theorem dX1_plainLossOf_56 : decode cX1_plainLossOf 56 = .ok (.iadd, 1) := by decide +kernel
theorem dX1_plainLossOf_57 : decode cX1_plainLossOf 57 = .ok (.ireturn, 1) := by decide +kernel
theorem dX1_plainLossOf_58 : decode cX1_plainLossOf 58 = .ok (.bipush 100, 2) := by decide +kernel
theorem dX1_plainLossOf_60 : decode cX1_plainLossOf 60 = .ok (.aload_n 0, 1) := by decide +kernel
theorem dX1_plainLossOf_61 : decode cX1_plainLossOf 61 = .ok (.getfield 34, 3) := by decide +kernel
theorem dX1_plainLossOf_64 : decode cX1_plainLossOf 64 = .ok (.iload_n 1, 1) := by decide +kernel
theorem dX1_plainLossOf_65 : decode cX1_plainLossOf 65 = .ok (.iaload, 1) := by decide +kernel
theorem dX1_plainLossOf_66 : decode cX1_plainLossOf 66 = .ok (.imul, 1) := by decide +kernel
theorem dX1_plainLossOf_67 : decode cX1_plainLossOf 67 = .ok (.ireturn, 1) := by decide +kernel
theorem dX1_plainLossOf_68 : decode cX1_plainLossOf 68 = .ok (.bipush 10, 2) := by decide +kernel
theorem dX1_plainLossOf_70 : decode cX1_plainLossOf 70 = .ok (.aload_n 0, 1) := by decide +kernel
theorem dX1_plainLossOf_71 : decode cX1_plainLossOf 71 = .ok (.getfield 34, 3) := by decide +kernel
theorem dX1_plainLossOf_74 : decode cX1_plainLossOf 74 = .ok (.iload_n 1, 1) := by decide +kernel
theorem dX1_plainLossOf_75 : decode cX1_plainLossOf 75 = .ok (.iaload, 1) := by decide +kernel
theorem dX1_plainLossOf_76 : decode cX1_plainLossOf 76 = .ok (.imul, 1) := by decide +kernel
theorem dX1_plainLossOf_77 : decode cX1_plainLossOf 77 = .ok (.ireturn, 1) := by decide +kernel
theorem dX1_lossOf_0 : decode cX1_lossOf 0 = .ok (.iload_n 2, 1) := by decide +kernel
theorem dX1_lossOf_1 : decode cX1_lossOf 1 = .ok (.ifCond .eq 7, 3) := by decide +kernel
theorem dX1_lossOf_4 : decode cX1_lossOf 4 = .ok (.iconst 0, 1) := by decide +kernel
theorem dX1_lossOf_5 : decode cX1_lossOf 5 = .ok (.goto 8, 3) := by decide +kernel
theorem dX1_lossOf_8 : decode cX1_lossOf 8 = .ok (.aload_n 0, 1) := by decide +kernel
theorem dX1_lossOf_9 : decode cX1_lossOf 9 = .ok (.iload_n 1, 1) := by decide +kernel
theorem dX1_lossOf_10 : decode cX1_lossOf 10 = .ok (.invokevirtual 87, 3) := by decide +kernel
theorem dX1_lossOf_13 : decode cX1_lossOf 13 = .ok (.istore 4, 2) := by decide +kernel
theorem dX1_lossOf_15 : decode cX1_lossOf 15 = .ok (.aload_n 0, 1) := by decide +kernel
theorem dX1_lossOf_16 : decode cX1_lossOf 16 = .ok (.iload_n 3, 1) := by decide +kernel
theorem dX1_lossOf_17 : decode cX1_lossOf 17 = .ok (.invokevirtual 90, 3) := by decide +kernel
theorem dX1_lossOf_20 : decode cX1_lossOf 20 = .ok (.ifCond .eq 19, 3) := by decide +kernel
theorem dX1_lossOf_23 : decode cX1_lossOf 23 = .ok (.iload 4, 2) := by decide +kernel
theorem dX1_lossOf_25 : decode cX1_lossOf 25 = .ok (.aload_n 0, 1) := by decide +kernel
theorem dX1_lossOf_26 : decode cX1_lossOf 26 = .ok (.getfield 24, 3) := by decide +kernel
theorem dX1_lossOf_29 : decode cX1_lossOf 29 = .ok (.iadd, 1) := by decide +kernel
theorem dX1_lossOf_30 : decode cX1_lossOf 30 = .ok (.sipush 1000, 3) := by decide +kernel
theorem dX1_lossOf_33 : decode cX1_lossOf 33 = .ok (.invokestatic 93, 3) := by decide +kernel
theorem dX1_lossOf_36 : decode cX1_lossOf 36 = .ok (.goto 5, 3) := by decide +kernel
theorem dX1_lossOf_39 : decode cX1_lossOf 39 = .ok (.iload 4, 2) := by decide +kernel
theorem dX1_lossOf_41 : decode cX1_lossOf 41 = .ok (.ireturn, 1) := by decide +kernel
theorem dX2_init_0 : decode cX2_init 0 = .ok (.aload_n 0, 1) := by decide +kernel
theorem dX2_init_1 : decode cX2_init 1 = .ok (.invokespecial 3, 3) := by decide +kernel
theorem dX2_init_4 : decode cX2_init 4 = .ok (.aload_n 0, 1) := by decide +kernel
theorem dX2_init_5 : decode cX2_init 5 = .ok (.iconst (-1), 1) := by decide +kernel
theorem dX2_init_6 : decode cX2_init 6 = .ok (.putfield 9, 3) := by decide +kernel
theorem dX2_init_9 : decode cX2_init 9 = .ok (.aload_n 0, 1) := by decide +kernel
theorem dX2_init_10 : decode cX2_init 10 = .ok (.iconst 0, 1) := by decide +kernel
theorem dX2_init_11 : decode cX2_init 11 = .ok (.putfield 15, 3) := by decide +kernel
theorem dX2_init_14 : decode cX2_init 14 = .ok (.aload_n 0, 1) := by decide +kernel
theorem dX2_init_15 : decode cX2_init 15 = .ok (.bipush 40, 2) := by decide +kernel
theorem dX2_init_17 : decode cX2_init 17 = .ok (.newarray .long, 2) := by decide +kernel
theorem dX2_init_19 : decode cX2_init 19 = .ok (.putfield 18, 3) := by decide +kernel
theorem dX2_init_22 : decode cX2_init 22 = .ok (.return_, 1) := by decide +kernel
theorem dX2_holdRow_0 : decode cX2_holdRow 0 = .ok (.aload_n 0, 1) := by decide +kernel
theorem dX2_holdRow_1 : decode cX2_holdRow 1 = .ok (.iload_n 1, 1) := by decide +kernel
theorem dX2_holdRow_2 : decode cX2_holdRow 2 = .ok (.putfield 9, 3) := by decide +kernel
theorem dX2_holdRow_5 : decode cX2_holdRow 5 = .ok (.aload_n 0, 1) := by decide +kernel
theorem dX2_holdRow_6 : decode cX2_holdRow 6 = .ok (.iload_n 2, 1) := by decide +kernel
theorem dX2_holdRow_7 : decode cX2_holdRow 7 = .ok (.ifCond .lt 13, 3) := by decide +kernel
theorem dX2_holdRow_10 : decode cX2_holdRow 10 = .ok (.iload_n 2, 1) := by decide +kernel
theorem dX2_holdRow_11 : decode cX2_holdRow 11 = .ok (.bipush 40, 2) := by decide +kernel
theorem dX2_holdRow_13 : decode cX2_holdRow 13 = .ok (.if_icmp .gt 7, 3) := by decide +kernel
theorem dX2_holdRow_16 : decode cX2_holdRow 16 = .ok (.iload_n 2, 1) := by decide +kernel
theorem dX2_holdRow_17 : decode cX2_holdRow 17 = .ok (.goto 4, 3) := by decide +kernel
theorem dX2_holdRow_20 : decode cX2_holdRow 20 = .ok (.iconst 0, 1) := by decide +kernel
theorem dX2_holdRow_21 : decode cX2_holdRow 21 = .ok (.putfield 15, 3) := by decide +kernel
theorem dX2_holdRow_24 : decode cX2_holdRow 24 = .ok (.iconst 0, 1) := by decide +kernel
theorem dX2_holdRow_25 : decode cX2_holdRow 25 = .ok (.istore_n 3, 1) := by decide +kernel
theorem dX2_holdRow_26 : decode cX2_holdRow 26 = .ok (.iload_n 3, 1) := by decide +kernel
theorem dX2_holdRow_27 : decode cX2_holdRow 27 = .ok (.bipush 40, 2) := by decide +kernel
theorem dX2_holdRow_29 : decode cX2_holdRow 29 = .ok (.if_icmp .ge 16, 3) := by decide +kernel
theorem dX2_holdRow_32 : decode cX2_holdRow 32 = .ok (.aload_n 0, 1) := by decide +kernel
theorem dX2_holdRow_33 : decode cX2_holdRow 33 = .ok (.getfield 18, 3) := by decide +kernel
theorem dX2_holdRow_36 : decode cX2_holdRow 36 = .ok (.iload_n 3, 1) := by decide +kernel
theorem dX2_holdRow_37 : decode cX2_holdRow 37 = .ok (.lconst 0, 1) := by decide +kernel
theorem dX2_holdRow_38 : decode cX2_holdRow 38 = .ok (.lastore, 1) := by decide +kernel
theorem dX2_holdRow_39 : decode cX2_holdRow 39 = .ok (.iinc 3 1, 3) := by decide +kernel
theorem dX2_holdRow_42 : decode cX2_holdRow 42 = .ok (.goto (-16), 3) := by decide +kernel
theorem dX2_holdRow_45 : decode cX2_holdRow 45 = .ok (.return_, 1) := by decide +kernel
theorem dX2_holdPupil_0 : decode cX2_holdPupil 0 = .ok (.aload_n 0, 1) := by decide +kernel
theorem dX2_holdPupil_1 : decode cX2_holdPupil 1 = .ok (.iload_n 1, 1) := by decide +kernel
theorem dX2_holdPupil_2 : decode cX2_holdPupil 2 = .ok (.ifCond .ge 7, 3) := by decide +kernel
theorem dX2_holdPupil_5 : decode cX2_holdPupil 5 = .ok (.iconst (-1), 1) := by decide +kernel
theorem dX2_holdPupil_6 : decode cX2_holdPupil 6 = .ok (.goto 7, 3) := by decide +kernel
theorem dX2_holdPupil_9 : decode cX2_holdPupil 9 = .ok (.bipush 10, 2) := by decide +kernel
theorem dX2_holdPupil_11 : decode cX2_holdPupil 11 = .ok (.iload_n 1, 1) := by decide +kernel
theorem dX2_holdPupil_12 : decode cX2_holdPupil 12 = .ok (.iadd, 1) := by decide +kernel
theorem dX2_holdPupil_13 : decode cX2_holdPupil 13 = .ok (.putfield 9, 3) := by decide +kernel
theorem dX2_holdPupil_16 : decode cX2_holdPupil 16 = .ok (.aload_n 0, 1) := by decide +kernel
theorem dX2_holdPupil_17 : decode cX2_holdPupil 17 = .ok (.iconst 0, 1) := by decide +kernel
theorem dX2_holdPupil_18 : decode cX2_holdPupil 18 = .ok (.putfield 15, 3) := by decide +kernel
theorem dX2_holdPupil_21 : decode cX2_holdPupil 21 = .ok (.return_, 1) := by decide +kernel
theorem dX2_holdsRow_0 : decode cX2_holdsRow 0 = .ok (.aload_n 0, 1) := by decide +kernel
theorem dX2_holdsRow_1 : decode cX2_holdsRow 1 = .ok (.getfield 9, 3) := by decide +kernel
theorem dX2_holdsRow_4 : decode cX2_holdsRow 4 = .ok (.ifCond .lt 15, 3) := by decide +kernel
theorem dX2_holdsRow_7 : decode cX2_holdsRow 7 = .ok (.aload_n 0, 1) := by decide +kernel
theorem dX2_holdsRow_8 : decode cX2_holdsRow 8 = .ok (.getfield 9, 3) := by decide +kernel
theorem dX2_holdsRow_11 : decode cX2_holdsRow 11 = .ok (.iconst 4, 1) := by decide +kernel
theorem dX2_holdsRow_12 : decode cX2_holdsRow 12 = .ok (.if_icmp .gt 7, 3) := by decide +kernel
theorem dX2_holdsRow_15 : decode cX2_holdsRow 15 = .ok (.iconst 1, 1) := by decide +kernel
theorem dX2_holdsRow_16 : decode cX2_holdsRow 16 = .ok (.goto 4, 3) := by decide +kernel
theorem dX2_holdsRow_19 : decode cX2_holdsRow 19 = .ok (.iconst 0, 1) := by decide +kernel
theorem dX2_holdsRow_20 : decode cX2_holdsRow 20 = .ok (.ireturn, 1) := by decide +kernel
theorem dX2_holdsPupil_0 : decode cX2_holdsPupil 0 = .ok (.aload_n 0, 1) := by decide +kernel
theorem dX2_holdsPupil_1 : decode cX2_holdsPupil 1 = .ok (.getfield 9, 3) := by decide +kernel
theorem dX2_holdsPupil_4 : decode cX2_holdsPupil 4 = .ok (.bipush 10, 2) := by decide +kernel
theorem dX2_holdsPupil_6 : decode cX2_holdsPupil 6 = .ok (.if_icmp .lt 7, 3) := by decide +kernel
theorem dX2_holdsPupil_9 : decode cX2_holdsPupil 9 = .ok (.iconst 1, 1) := by decide +kernel
theorem dX2_holdsPupil_10 : decode cX2_holdsPupil 10 = .ok (.goto 4, 3) := by decide +kernel
theorem dX2_holdsPupil_13 : decode cX2_holdsPupil 13 = .ok (.iconst 0, 1) := by decide +kernel
theorem dX2_holdsPupil_14 : decode cX2_holdsPupil 14 = .ok (.ireturn, 1) := by decide +kernel
theorem dX2_heldPupil_0 : decode cX2_heldPupil 0 = .ok (.aload_n 0, 1) := by decide +kernel
theorem dX2_heldPupil_1 : decode cX2_heldPupil 1 = .ok (.invokevirtual 22, 3) := by decide +kernel
theorem dX2_heldPupil_4 : decode cX2_heldPupil 4 = .ok (.ifCond .eq 13, 3) := by decide +kernel
theorem dX2_heldPupil_7 : decode cX2_heldPupil 7 = .ok (.aload_n 0, 1) := by decide +kernel
theorem dX2_heldPupil_8 : decode cX2_heldPupil 8 = .ok (.getfield 9, 3) := by decide +kernel
theorem dX2_heldPupil_11 : decode cX2_heldPupil 11 = .ok (.bipush 10, 2) := by decide +kernel
theorem dX2_heldPupil_13 : decode cX2_heldPupil 13 = .ok (.isub, 1) := by decide +kernel
theorem dX2_heldPupil_14 : decode cX2_heldPupil 14 = .ok (.goto 4, 3) := by decide +kernel
theorem dX2_heldPupil_17 : decode cX2_heldPupil 17 = .ok (.iconst (-1), 1) := by decide +kernel
theorem dX2_heldPupil_18 : decode cX2_heldPupil 18 = .ok (.ireturn, 1) := by decide +kernel
theorem dX2_hasPlaces_0 : decode cX2_hasPlaces 0 = .ok (.iload_n 1, 1) := by decide +kernel
theorem dX2_hasPlaces_1 : decode cX2_hasPlaces 1 = .ok (.ifCond .lt 29, 3) := by decide +kernel
theorem dX2_hasPlaces_4 : decode cX2_hasPlaces 4 = .ok (.iload_n 2, 1) := by decide +kernel
theorem dX2_hasPlaces_5 : decode cX2_hasPlaces 5 = .ok (.ifCond .lt 25, 3) := by decide +kernel
theorem dX2_hasPlaces_8 : decode cX2_hasPlaces 8 = .ok (.iload_n 2, 1) := by decide +kernel
theorem dX2_hasPlaces_9 : decode cX2_hasPlaces 9 = .ok (.aload_n 0, 1) := by decide +kernel
theorem dX2_hasPlaces_10 : decode cX2_hasPlaces 10 = .ok (.getfield 15, 3) := by decide +kernel
theorem dX2_hasPlaces_13 : decode cX2_hasPlaces 13 = .ok (.if_icmp .gt 17, 3) := by decide +kernel
theorem dX2_hasPlaces_16 : decode cX2_hasPlaces 16 = .ok (.iload_n 1, 1) := by decide +kernel
theorem dX2_hasPlaces_17 : decode cX2_hasPlaces 17 = .ok (.aload_n 0, 1) := by decide +kernel
theorem dX2_hasPlaces_18 : decode cX2_hasPlaces 18 = .ok (.getfield 15, 3) := by decide +kernel
theorem dX2_hasPlaces_21 : decode cX2_hasPlaces 21 = .ok (.iload_n 2, 1) := by decide +kernel
theorem dX2_hasPlaces_22 : decode cX2_hasPlaces 22 = .ok (.isub, 1) := by decide +kernel
theorem dX2_hasPlaces_23 : decode cX2_hasPlaces 23 = .ok (.if_icmp .gt 7, 3) := by decide +kernel
theorem dX2_hasPlaces_26 : decode cX2_hasPlaces 26 = .ok (.iconst 1, 1) := by decide +kernel
theorem dX2_hasPlaces_27 : decode cX2_hasPlaces 27 = .ok (.goto 4, 3) := by decide +kernel
theorem dX2_hasPlaces_30 : decode cX2_hasPlaces 30 = .ok (.iconst 0, 1) := by decide +kernel
theorem dX2_hasPlaces_31 : decode cX2_hasPlaces 31 = .ok (.ireturn, 1) := by decide +kernel
theorem dX2_cell_0 : decode cX2_cell 0 = .ok (.iload_n 1, 1) := by decide +kernel
theorem dX2_cell_1 : decode cX2_cell 1 = .ok (.ifCond .lt 20, 3) := by decide +kernel
theorem dX2_cell_4 : decode cX2_cell 4 = .ok (.iload_n 1, 1) := by decide +kernel
theorem dX2_cell_5 : decode cX2_cell 5 = .ok (.aload_n 0, 1) := by decide +kernel
theorem dX2_cell_6 : decode cX2_cell 6 = .ok (.getfield 15, 3) := by decide +kernel
theorem dX2_cell_9 : decode cX2_cell 9 = .ok (.if_icmp .ge 12, 3) := by decide +kernel
theorem dX2_cell_12 : decode cX2_cell 12 = .ok (.aload_n 0, 1) := by decide +kernel
theorem dX2_cell_13 : decode cX2_cell 13 = .ok (.getfield 18, 3) := by decide +kernel
theorem dX2_cell_16 : decode cX2_cell 16 = .ok (.iload_n 1, 1) := by decide +kernel
theorem dX2_cell_17 : decode cX2_cell 17 = .ok (.laload, 1) := by decide +kernel
theorem dX2_cell_18 : decode cX2_cell 18 = .ok (.goto 4, 3) := by decide +kernel
theorem dX2_cell_21 : decode cX2_cell 21 = .ok (.lconst 0, 1) := by decide +kernel
theorem dX2_cell_22 : decode cX2_cell 22 = .ok (.lreturn, 1) := by decide +kernel
theorem dX2_put_0 : decode cX2_put 0 = .ok (.iload_n 1, 1) := by decide +kernel
theorem dX2_put_1 : decode cX2_put 1 = .ok (.ifCond .lt 22, 3) := by decide +kernel
theorem dX2_put_4 : decode cX2_put 4 = .ok (.iload_n 1, 1) := by decide +kernel
theorem dX2_put_5 : decode cX2_put 5 = .ok (.aload_n 0, 1) := by decide +kernel
theorem dX2_put_6 : decode cX2_put 6 = .ok (.getfield 15, 3) := by decide +kernel
theorem dX2_put_9 : decode cX2_put 9 = .ok (.if_icmp .ge 14, 3) := by decide +kernel
theorem dX2_put_12 : decode cX2_put 12 = .ok (.aload_n 0, 1) := by decide +kernel
theorem dX2_put_13 : decode cX2_put 13 = .ok (.getfield 18, 3) := by decide +kernel
theorem dX2_put_16 : decode cX2_put 16 = .ok (.iload_n 1, 1) := by decide +kernel
theorem dX2_put_17 : decode cX2_put 17 = .ok (.aload_n 0, 1) := by decide +kernel
theorem dX2_put_18 : decode cX2_put 18 = .ok (.lload_n 2, 1) := by decide +kernel
theorem dX2_put_19 : decode cX2_put 19 = .ok (.invokevirtual 26, 3) := by decide +kernel
theorem dX2_put_22 : decode cX2_put 22 = .ok (.lastore, 1) := by decide +kernel
theorem dX2_put_23 : decode cX2_put 23 = .ok (.return_, 1) := by decide +kernel
theorem dX2_narrowed_0 : decode cX2_narrowed 0 = .ok (.aload_n 0, 1) := by decide +kernel
theorem dX2_narrowed_1 : decode cX2_narrowed 1 = .ok (.getfield 9, 3) := by decide +kernel
theorem dX2_narrowed_4 : decode cX2_narrowed 4 = .ok (.tableswitch 62 0 4 #[36, 41, 46, 62, 50], 36) := by decide +kernel
theorem dX2_narrowed_40 : decode cX2_narrowed 40 = .ok (.lload_n 1, 1) := by decide +kernel
theorem dX2_narrowed_41 : decode cX2_narrowed 41 = .ok (.l2i, 1) := by decide +kernel
theorem dX2_narrowed_42 : decode cX2_narrowed 42 = .ok (.i2b, 1) := by decide +kernel
theorem dX2_narrowed_43 : decode cX2_narrowed 43 = .ok (.i2l, 1) := by decide +kernel
theorem dX2_narrowed_44 : decode cX2_narrowed 44 = .ok (.lreturn, 1) := by decide +kernel
theorem dX2_narrowed_45 : decode cX2_narrowed 45 = .ok (.lload_n 1, 1) := by decide +kernel
theorem dX2_narrowed_46 : decode cX2_narrowed 46 = .ok (.l2i, 1) := by decide +kernel
theorem dX2_narrowed_47 : decode cX2_narrowed 47 = .ok (.i2s, 1) := by decide +kernel
theorem dX2_narrowed_48 : decode cX2_narrowed 48 = .ok (.i2l, 1) := by decide +kernel
theorem dX2_narrowed_49 : decode cX2_narrowed 49 = .ok (.lreturn, 1) := by decide +kernel
theorem dX2_narrowed_50 : decode cX2_narrowed 50 = .ok (.lload_n 1, 1) := by decide +kernel
theorem dX2_narrowed_51 : decode cX2_narrowed 51 = .ok (.l2i, 1) := by decide +kernel
theorem dX2_narrowed_52 : decode cX2_narrowed 52 = .ok (.i2l, 1) := by decide +kernel
theorem dX2_narrowed_53 : decode cX2_narrowed 53 = .ok (.lreturn, 1) := by decide +kernel
theorem dX2_narrowed_54 : decode cX2_narrowed 54 = .ok (.lload_n 1, 1) := by decide +kernel
theorem dX2_narrowed_55 : decode cX2_narrowed 55 = .ok (.lconst 0, 1) := by decide +kernel
theorem dX2_narrowed_56 : decode cX2_narrowed 56 = .ok (.lcmp, 1) := by decide +kernel
theorem dX2_narrowed_57 : decode cX2_narrowed 57 = .ok (.ifCond .eq 7, 3) := by decide +kernel
theorem dX2_narrowed_60 : decode cX2_narrowed 60 = .ok (.lconst 1, 1) := by decide +kernel
theorem dX2_narrowed_61 : decode cX2_narrowed 61 = .ok (.goto 4, 3) := by decide +kernel
theorem dX2_narrowed_64 : decode cX2_narrowed 64 = .ok (.lconst 0, 1) := by decide +kernel
theorem dX2_narrowed_65 : decode cX2_narrowed 65 = .ok (.lreturn, 1) := by decide +kernel
theorem dX2_narrowed_66 : decode cX2_narrowed 66 = .ok (.lload_n 1, 1) := by decide +kernel
theorem dX2_narrowed_67 : decode cX2_narrowed 67 = .ok (.lreturn, 1) := by decide +kernel
theorem dX2_hasLetters_0 : decode cX2_hasLetters 0 = .ok (.iconst 0, 1) := by decide +kernel
theorem dX2_hasLetters_1 : decode cX2_hasLetters 1 = .ok (.istore_n 2, 1) := by decide +kernel
theorem dX2_hasLetters_2 : decode cX2_hasLetters 2 = .ok (.iload_n 2, 1) := by decide +kernel
theorem dX2_hasLetters_3 : decode cX2_hasLetters 3 = .ok (.iload_n 1, 1) := by decide +kernel
theorem dX2_hasLetters_4 : decode cX2_hasLetters 4 = .ok (.if_icmp .ge 33, 3) := by decide +kernel
theorem dX2_hasLetters_7 : decode cX2_hasLetters 7 = .ok (.aload_n 0, 1) := by decide +kernel
theorem dX2_hasLetters_8 : decode cX2_hasLetters 8 = .ok (.iload_n 2, 1) := by decide +kernel
theorem dX2_hasLetters_9 : decode cX2_hasLetters 9 = .ok (.invokevirtual 30, 3) := by decide +kernel
theorem dX2_hasLetters_12 : decode cX2_hasLetters 12 = .ok (.lconst 0, 1) := by decide +kernel
theorem dX2_hasLetters_13 : decode cX2_hasLetters 13 = .ok (.lcmp, 1) := by decide +kernel
theorem dX2_hasLetters_14 : decode cX2_hasLetters 14 = .ok (.ifCond .lt 15, 3) := by decide +kernel
theorem dX2_hasLetters_17 : decode cX2_hasLetters 17 = .ok (.aload_n 0, 1) := by decide +kernel
theorem dX2_hasLetters_18 : decode cX2_hasLetters 18 = .ok (.iload_n 2, 1) := by decide +kernel
theorem dX2_hasLetters_19 : decode cX2_hasLetters 19 = .ok (.invokevirtual 30, 3) := by decide +kernel
theorem dX2_hasLetters_22 : decode cX2_hasLetters 22 = .ok (.ldc2_w 34, 3) := by decide +kernel
theorem dX2_hasLetters_25 : decode cX2_hasLetters 25 = .ok (.lcmp, 1) := by decide +kernel
theorem dX2_hasLetters_26 : decode cX2_hasLetters 26 = .ok (.ifCond .lt 5, 3) := by decide +kernel
theorem dX2_hasLetters_29 : decode cX2_hasLetters 29 = .ok (.iconst 0, 1) := by decide +kernel
theorem dX2_hasLetters_30 : decode cX2_hasLetters 30 = .ok (.ireturn, 1) := by decide +kernel
theorem dX2_hasLetters_31 : decode cX2_hasLetters 31 = .ok (.iinc 2 1, 3) := by decide +kernel
theorem dX2_hasLetters_34 : decode cX2_hasLetters 34 = .ok (.goto (-32), 3) := by decide +kernel
theorem dX2_hasLetters_37 : decode cX2_hasLetters 37 = .ok (.iconst 1, 1) := by decide +kernel
theorem dX2_hasLetters_38 : decode cX2_hasLetters 38 = .ok (.ireturn, 1) := by decide +kernel
theorem dX3_init_0 : decode cX3_init 0 = .ok (.aload_n 0, 1) := by decide +kernel
theorem dX3_init_1 : decode cX3_init 1 = .ok (.invokespecial 3, 3) := by decide +kernel
theorem dX3_init_4 : decode cX3_init 4 = .ok (.aload_n 0, 1) := by decide +kernel
theorem dX3_init_5 : decode cX3_init 5 = .ok (.iconst 0, 1) := by decide +kernel
theorem dX3_init_6 : decode cX3_init 6 = .ok (.putfield 9, 3) := by decide +kernel
theorem dX3_init_9 : decode cX3_init 9 = .ok (.aload_n 0, 1) := by decide +kernel
theorem dX3_init_10 : decode cX3_init 10 = .ok (.sipush 250, 3) := by decide +kernel
theorem dX3_init_13 : decode cX3_init 13 = .ok (.newarray .int, 2) := by decide +kernel
theorem dX3_init_15 : decode cX3_init 15 = .ok (.putfield 15, 3) := by decide +kernel
theorem dX3_init_18 : decode cX3_init 18 = .ok (.return_, 1) := by decide +kernel
theorem dX3_add_0 : decode cX3_add 0 = .ok (.aload_n 0, 1) := by decide +kernel
theorem dX3_add_1 : decode cX3_add 1 = .ok (.getfield 9, 3) := by decide +kernel
theorem dX3_add_4 : decode cX3_add 4 = .ok (.ifCond .lt 13, 3) := by decide +kernel
theorem dX3_add_7 : decode cX3_add 7 = .ok (.aload_n 0, 1) := by decide +kernel
theorem dX3_add_8 : decode cX3_add 8 = .ok (.getfield 9, 3) := by decide +kernel
theorem dX3_add_11 : decode cX3_add 11 = .ok (.sipush 250, 3) := by decide +kernel
theorem dX3_add_14 : decode cX3_add 14 = .ok (.if_icmp .lt 5, 3) := by decide +kernel
theorem dX3_add_17 : decode cX3_add 17 = .ok (.iconst 0, 1) := by decide +kernel
theorem dX3_add_18 : decode cX3_add 18 = .ok (.ireturn, 1) := by decide +kernel
theorem dX3_add_19 : decode cX3_add 19 = .ok (.aload_n 0, 1) := by decide +kernel
theorem dX3_add_20 : decode cX3_add 20 = .ok (.getfield 15, 3) := by decide +kernel
theorem dX3_add_23 : decode cX3_add 23 = .ok (.aload_n 0, 1) := by decide +kernel
theorem dX3_add_24 : decode cX3_add 24 = .ok (.getfield 9, 3) := by decide +kernel
theorem dX3_add_27 : decode cX3_add 27 = .ok (.iload_n 1, 1) := by decide +kernel
theorem dX3_add_28 : decode cX3_add 28 = .ok (.iastore, 1) := by decide +kernel
theorem dX3_add_29 : decode cX3_add 29 = .ok (.aload_n 0, 1) := by decide +kernel
theorem dX3_add_30 : decode cX3_add 30 = .ok (.dup, 1) := by decide +kernel
theorem dX3_add_31 : decode cX3_add 31 = .ok (.getfield 9, 3) := by decide +kernel
theorem dX3_add_34 : decode cX3_add 34 = .ok (.iconst 1, 1) := by decide +kernel
theorem dX3_add_35 : decode cX3_add 35 = .ok (.iadd, 1) := by decide +kernel
theorem dX3_add_36 : decode cX3_add 36 = .ok (.putfield 9, 3) := by decide +kernel
theorem dX3_add_39 : decode cX3_add 39 = .ok (.iconst 1, 1) := by decide +kernel
theorem dX3_add_40 : decode cX3_add 40 = .ok (.ireturn, 1) := by decide +kernel
theorem dX3_byteAt_0 : decode cX3_byteAt 0 = .ok (.iload_n 1, 1) := by decide +kernel
theorem dX3_byteAt_1 : decode cX3_byteAt 1 = .ok (.ifCond .lt 27, 3) := by decide +kernel
theorem dX3_byteAt_4 : decode cX3_byteAt 4 = .ok (.iload_n 1, 1) := by decide +kernel
theorem dX3_byteAt_5 : decode cX3_byteAt 5 = .ok (.aload_n 0, 1) := by decide +kernel
theorem dX3_byteAt_6 : decode cX3_byteAt 6 = .ok (.getfield 9, 3) := by decide +kernel
theorem dX3_byteAt_9 : decode cX3_byteAt 9 = .ok (.if_icmp .ge 19, 3) := by decide +kernel
theorem dX3_byteAt_12 : decode cX3_byteAt 12 = .ok (.iload_n 1, 1) := by decide +kernel
theorem dX3_byteAt_13 : decode cX3_byteAt 13 = .ok (.sipush 250, 3) := by decide +kernel
theorem dX3_byteAt_16 : decode cX3_byteAt 16 = .ok (.if_icmp .ge 12, 3) := by decide +kernel
theorem dX3_byteAt_19 : decode cX3_byteAt 19 = .ok (.aload_n 0, 1) := by decide +kernel
theorem dX3_byteAt_20 : decode cX3_byteAt 20 = .ok (.getfield 15, 3) := by decide +kernel
theorem dX3_byteAt_23 : decode cX3_byteAt 23 = .ok (.iload_n 1, 1) := by decide +kernel
theorem dX3_byteAt_24 : decode cX3_byteAt 24 = .ok (.iaload, 1) := by decide +kernel
theorem dX3_byteAt_25 : decode cX3_byteAt 25 = .ok (.goto 4, 3) := by decide +kernel
theorem dX3_byteAt_28 : decode cX3_byteAt 28 = .ok (.iconst (-1), 1) := by decide +kernel
theorem dX3_byteAt_29 : decode cX3_byteAt 29 = .ok (.ireturn, 1) := by decide +kernel
theorem dX4_init_0 : decode cX4_init 0 = .ok (.aload_n 0, 1) := by decide +kernel
theorem dX4_init_1 : decode cX4_init 1 = .ok (.invokespecial 3, 3) := by decide +kernel
theorem dX4_init_4 : decode cX4_init 4 = .ok (.aload_n 0, 1) := by decide +kernel
theorem dX4_init_5 : decode cX4_init 5 = .ok (.iconst 0, 1) := by decide +kernel
theorem dX4_init_6 : decode cX4_init 6 = .ok (.putfield 9, 3) := by decide +kernel
theorem dX4_init_9 : decode cX4_init 9 = .ok (.aload_n 0, 1) := by decide +kernel
theorem dX4_init_10 : decode cX4_init 10 = .ok (.iconst 1, 1) := by decide +kernel
theorem dX4_init_11 : decode cX4_init 11 = .ok (.putfield 15, 3) := by decide +kernel
theorem dX4_init_14 : decode cX4_init 14 = .ok (.aload_n 0, 1) := by decide +kernel
theorem dX4_init_15 : decode cX4_init 15 = .ok (.iconst 0, 1) := by decide +kernel
theorem dX4_init_16 : decode cX4_init 16 = .ok (.putfield 18, 3) := by decide +kernel
theorem dX4_init_19 : decode cX4_init 19 = .ok (.aload_n 0, 1) := by decide +kernel
theorem dX4_init_20 : decode cX4_init 20 = .ok (.iconst 0, 1) := by decide +kernel
theorem dX4_init_21 : decode cX4_init 21 = .ok (.putfield 21, 3) := by decide +kernel
theorem dX4_init_24 : decode cX4_init 24 = .ok (.aload_n 0, 1) := by decide +kernel
theorem dX4_init_25 : decode cX4_init 25 = .ok (.iconst 0, 1) := by decide +kernel
theorem dX4_init_26 : decode cX4_init 26 = .ok (.putfield 24, 3) := by decide +kernel
theorem dX4_init_29 : decode cX4_init 29 = .ok (.aload_n 0, 1) := by decide +kernel
theorem dX4_init_30 : decode cX4_init 30 = .ok (.bipush 16, 2) := by decide +kernel
theorem dX4_init_32 : decode cX4_init 32 = .ok (.newarray .int, 2) := by decide +kernel
theorem dX4_init_34 : decode cX4_init 34 = .ok (.putfield 27, 3) := by decide +kernel
theorem dX4_init_37 : decode cX4_init 37 = .ok (.aload_n 0, 1) := by decide +kernel
theorem dX4_init_38 : decode cX4_init 38 = .ok (.bipush 16, 2) := by decide +kernel
theorem dX4_init_40 : decode cX4_init 40 = .ok (.newarray .int, 2) := by decide +kernel
theorem dX4_init_42 : decode cX4_init 42 = .ok (.putfield 31, 3) := by decide +kernel
theorem dX4_init_45 : decode cX4_init 45 = .ok (.aload_n 0, 1) := by decide +kernel
theorem dX4_init_46 : decode cX4_init 46 = .ok (.bipush 16, 2) := by decide +kernel
theorem dX4_init_48 : decode cX4_init 48 = .ok (.newarray .int, 2) := by decide +kernel
theorem dX4_init_50 : decode cX4_init 50 = .ok (.putfield 34, 3) := by decide +kernel
theorem dX4_init_53 : decode cX4_init 53 = .ok (.return_, 1) := by decide +kernel
theorem dX4_takeOver_0 : decode cX4_takeOver 0 = .ok (.aload_n 0, 1) := by decide +kernel
theorem dX4_takeOver_1 : decode cX4_takeOver 1 = .ok (.aload_n 1, 1) := by decide +kernel
theorem dX4_takeOver_2 : decode cX4_takeOver 2 = .ok (.getfield 9, 3) := by decide +kernel
theorem dX4_takeOver_5 : decode cX4_takeOver 5 = .ok (.putfield 9, 3) := by decide +kernel
theorem dX4_takeOver_8 : decode cX4_takeOver 8 = .ok (.aload_n 0, 1) := by decide +kernel
theorem dX4_takeOver_9 : decode cX4_takeOver 9 = .ok (.aload_n 1, 1) := by decide +kernel
theorem dX4_takeOver_10 : decode cX4_takeOver 10 = .ok (.getfield 15, 3) := by decide +kernel
theorem dX4_takeOver_13 : decode cX4_takeOver 13 = .ok (.putfield 15, 3) := by decide +kernel
theorem dX4_takeOver_16 : decode cX4_takeOver 16 = .ok (.aload_n 0, 1) := by decide +kernel
theorem dX4_takeOver_17 : decode cX4_takeOver 17 = .ok (.aload_n 1, 1) := by decide +kernel
theorem dX4_takeOver_18 : decode cX4_takeOver 18 = .ok (.getfield 18, 3) := by decide +kernel
theorem dX4_takeOver_21 : decode cX4_takeOver 21 = .ok (.putfield 18, 3) := by decide +kernel
theorem dX4_takeOver_24 : decode cX4_takeOver 24 = .ok (.aload_n 0, 1) := by decide +kernel
theorem dX4_takeOver_25 : decode cX4_takeOver 25 = .ok (.aload_n 1, 1) := by decide +kernel
theorem dX4_takeOver_26 : decode cX4_takeOver 26 = .ok (.getfield 21, 3) := by decide +kernel
theorem dX4_takeOver_29 : decode cX4_takeOver 29 = .ok (.putfield 21, 3) := by decide +kernel
theorem dX4_takeOver_32 : decode cX4_takeOver 32 = .ok (.aload_n 0, 1) := by decide +kernel
theorem dX4_takeOver_33 : decode cX4_takeOver 33 = .ok (.aload_n 1, 1) := by decide +kernel
theorem dX4_takeOver_34 : decode cX4_takeOver 34 = .ok (.getfield 24, 3) := by decide +kernel
theorem dX4_takeOver_37 : decode cX4_takeOver 37 = .ok (.putfield 24, 3) := by decide +kernel
theorem dX4_takeOver_40 : decode cX4_takeOver 40 = .ok (.aload_n 1, 1) := by decide +kernel
theorem dX4_takeOver_41 : decode cX4_takeOver 41 = .ok (.getfield 27, 3) := by decide +kernel
theorem dX4_takeOver_44 : decode cX4_takeOver 44 = .ok (.iconst 0, 1) := by decide +kernel
theorem dX4_takeOver_45 : decode cX4_takeOver 45 = .ok (.aload_n 0, 1) := by decide +kernel
theorem dX4_takeOver_46 : decode cX4_takeOver 46 = .ok (.getfield 27, 3) := by decide +kernel
theorem dX4_takeOver_49 : decode cX4_takeOver 49 = .ok (.iconst 0, 1) := by decide +kernel
theorem dX4_takeOver_50 : decode cX4_takeOver 50 = .ok (.bipush 16, 2) := by decide +kernel
theorem dX4_takeOver_52 : decode cX4_takeOver 52 = .ok (.invokestatic 37, 3) := by decide +kernel
theorem dX4_takeOver_55 : decode cX4_takeOver 55 = .ok (.aload_n 1, 1) := by decide +kernel
theorem dX4_takeOver_56 : decode cX4_takeOver 56 = .ok (.getfield 31, 3) := by decide +kernel
theorem dX4_takeOver_59 : decode cX4_takeOver 59 = .ok (.iconst 0, 1) := by decide +kernel
theorem dX4_takeOver_60 : decode cX4_takeOver 60 = .ok (.aload_n 0, 1) := by decide +kernel
theorem dX4_takeOver_61 : decode cX4_takeOver 61 = .ok (.getfield 31, 3) := by decide +kernel
theorem dX4_takeOver_64 : decode cX4_takeOver 64 = .ok (.iconst 0, 1) := by decide +kernel
theorem dX4_takeOver_65 : decode cX4_takeOver 65 = .ok (.bipush 16, 2) := by decide +kernel
theorem dX4_takeOver_67 : decode cX4_takeOver 67 = .ok (.invokestatic 37, 3) := by decide +kernel
theorem dX4_takeOver_70 : decode cX4_takeOver 70 = .ok (.aload_n 1, 1) := by decide +kernel
theorem dX4_takeOver_71 : decode cX4_takeOver 71 = .ok (.getfield 34, 3) := by decide +kernel
theorem dX4_takeOver_74 : decode cX4_takeOver 74 = .ok (.iconst 0, 1) := by decide +kernel
theorem dX4_takeOver_75 : decode cX4_takeOver 75 = .ok (.aload_n 0, 1) := by decide +kernel
theorem dX4_takeOver_76 : decode cX4_takeOver 76 = .ok (.getfield 34, 3) := by decide +kernel
theorem dX4_takeOver_79 : decode cX4_takeOver 79 = .ok (.iconst 0, 1) := by decide +kernel
theorem dX4_takeOver_80 : decode cX4_takeOver 80 = .ok (.bipush 16, 2) := by decide +kernel
theorem dX4_takeOver_82 : decode cX4_takeOver 82 = .ok (.invokestatic 37, 3) := by decide +kernel
theorem dX4_takeOver_85 : decode cX4_takeOver 85 = .ok (.return_, 1) := by decide +kernel
theorem dX4_draw_0 : decode cX4_draw 0 = .ok (.aload_n 0, 1) := by decide +kernel
theorem dX4_draw_1 : decode cX4_draw 1 = .ok (.aload_n 0, 1) := by decide +kernel
theorem dX4_draw_2 : decode cX4_draw 2 = .ok (.getfield 15, 3) := by decide +kernel
theorem dX4_draw_5 : decode cX4_draw 5 = .ok (.ldc 43, 2) := by decide +kernel
theorem dX4_draw_7 : decode cX4_draw 7 = .ok (.imul, 1) := by decide +kernel
theorem dX4_draw_8 : decode cX4_draw 8 = .ok (.sipush 12345, 3) := by decide +kernel
theorem dX4_draw_11 : decode cX4_draw 11 = .ok (.iadd, 1) := by decide +kernel
theorem dX4_draw_12 : decode cX4_draw 12 = .ok (.putfield 15, 3) := by decide +kernel
theorem dX4_draw_15 : decode cX4_draw 15 = .ok (.iload_n 1, 1) := by decide +kernel
theorem dX4_draw_16 : decode cX4_draw 16 = .ok (.iconst 1, 1) := by decide +kernel
theorem dX4_draw_17 : decode cX4_draw 17 = .ok (.if_icmp .ge 7, 3) := by decide +kernel
theorem dX4_draw_20 : decode cX4_draw 20 = .ok (.iconst 0, 1) := by decide +kernel
theorem dX4_draw_21 : decode cX4_draw 21 = .ok (.goto 12, 3) := by decide +kernel
theorem dX4_draw_24 : decode cX4_draw 24 = .ok (.aload_n 0, 1) := by decide +kernel
theorem dX4_draw_25 : decode cX4_draw 25 = .ok (.getfield 15, 3) := by decide +kernel
theorem dX4_draw_28 : decode cX4_draw 28 = .ok (.bipush 16, 2) := by decide +kernel
theorem dX4_draw_30 : decode cX4_draw 30 = .ok (.iushr, 1) := by decide +kernel
theorem dX4_draw_31 : decode cX4_draw 31 = .ok (.iload_n 1, 1) := by decide +kernel
theorem dX4_draw_32 : decode cX4_draw 32 = .ok (.irem, 1) := by decide +kernel
theorem dX4_draw_33 : decode cX4_draw 33 = .ok (.ireturn, 1) := by decide +kernel
theorem dX4_pass_0 : decode cX4_pass 0 = .ok (.aload_n 2, 1) := by decide +kernel
theorem dX4_pass_1 : decode cX4_pass 1 = .ok (.iload_n 3, 1) := by decide +kernel
theorem dX4_pass_2 : decode cX4_pass 2 = .ok (.invokevirtual 44, 3) := by decide +kernel
theorem dX4_pass_5 : decode cX4_pass 5 = .ok (.iconst 1, 1) := by decide +kernel
theorem dX4_pass_6 : decode cX4_pass 6 = .ok (.isub, 1) := by decide +kernel
theorem dX4_pass_7 : decode cX4_pass 7 = .ok (.istore 4, 2) := by decide +kernel
theorem dX4_pass_9 : decode cX4_pass 9 = .ok (.iconst 0, 1) := by decide +kernel
theorem dX4_pass_10 : decode cX4_pass 10 = .ok (.istore 5, 2) := by decide +kernel
theorem dX4_pass_12 : decode cX4_pass 12 = .ok (.iconst 0, 1) := by decide +kernel
theorem dX4_pass_13 : decode cX4_pass 13 = .ok (.istore 6, 2) := by decide +kernel
theorem dX4_pass_15 : decode cX4_pass 15 = .ok (.iload 6, 2) := by decide +kernel
theorem dX4_pass_17 : decode cX4_pass 17 = .ok (.iload 4, 2) := by decide +kernel
theorem dX4_pass_19 : decode cX4_pass 19 = .ok (.if_icmp .ge 86, 3) := by decide +kernel
theorem dX4_pass_22 : decode cX4_pass 22 = .ok (.iload 5, 2) := by decide +kernel
theorem dX4_pass_24 : decode cX4_pass 24 = .ok (.ifCond .ne 81, 3) := by decide +kernel
theorem dX4_pass_27 : decode cX4_pass 27 = .ok (.aload_n 1, 1) := by decide +kernel
theorem dX4_pass_28 : decode cX4_pass 28 = .ok (.aload_n 2, 1) := by decide +kernel
theorem dX4_pass_29 : decode cX4_pass 29 = .ok (.iload_n 3, 1) := by decide +kernel
theorem dX4_pass_30 : decode cX4_pass 30 = .ok (.iload 6, 2) := by decide +kernel
theorem dX4_pass_32 : decode cX4_pass 32 = .ok (.iconst 1, 1) := by decide +kernel
theorem dX4_pass_33 : decode cX4_pass 33 = .ok (.iadd, 1) := by decide +kernel
theorem dX4_pass_34 : decode cX4_pass 34 = .ok (.invokevirtual 50, 3) := by decide +kernel
theorem dX4_pass_37 : decode cX4_pass 37 = .ok (.iload 6, 2) := by decide +kernel
theorem dX4_pass_39 : decode cX4_pass 39 = .ok (.iload 4, 2) := by decide +kernel
theorem dX4_pass_41 : decode cX4_pass 41 = .ok (.iconst 1, 1) := by decide +kernel
theorem dX4_pass_42 : decode cX4_pass 42 = .ok (.isub, 1) := by decide +kernel
theorem dX4_pass_43 : decode cX4_pass 43 = .ok (.if_icmp .ne 7, 3) := by decide +kernel
theorem dX4_pass_46 : decode cX4_pass 46 = .ok (.iconst 1, 1) := by decide +kernel
theorem dX4_pass_47 : decode cX4_pass 47 = .ok (.goto 4, 3) := by decide +kernel
theorem dX4_pass_50 : decode cX4_pass 50 = .ok (.iconst 0, 1) := by decide +kernel
theorem dX4_pass_51 : decode cX4_pass 51 = .ok (.aload_n 0, 1) := by decide +kernel
theorem dX4_pass_52 : decode cX4_pass 52 = .ok (.getfield 9, 3) := by decide +kernel
theorem dX4_pass_55 : decode cX4_pass 55 = .ok (.invokevirtual 54, 3) := by decide +kernel
theorem dX4_pass_58 : decode cX4_pass 58 = .ok (.istore 7, 2) := by decide +kernel
theorem dX4_pass_60 : decode cX4_pass 60 = .ok (.aload_n 0, 1) := by decide +kernel
theorem dX4_pass_61 : decode cX4_pass 61 = .ok (.sipush 1000, 3) := by decide +kernel
theorem dX4_pass_64 : decode cX4_pass 64 = .ok (.invokevirtual 60, 3) := by decide +kernel
theorem dX4_pass_67 : decode cX4_pass 67 = .ok (.iload 7, 2) := by decide +kernel
theorem dX4_pass_69 : decode cX4_pass 69 = .ok (.if_icmp .ge 7, 3) := by decide +kernel
theorem dX4_pass_72 : decode cX4_pass 72 = .ok (.iconst 1, 1) := by decide +kernel
theorem dX4_pass_73 : decode cX4_pass 73 = .ok (.goto 4, 3) := by decide +kernel
theorem dX4_pass_76 : decode cX4_pass 76 = .ok (.iconst 0, 1) := by decide +kernel
theorem dX4_pass_77 : decode cX4_pass 77 = .ok (.istore 5, 2) := by decide +kernel
theorem dX4_pass_79 : decode cX4_pass 79 = .ok (.aload_n 0, 1) := by decide +kernel
theorem dX4_pass_80 : decode cX4_pass 80 = .ok (.dup, 1) := by decide +kernel
theorem dX4_pass_81 : decode cX4_pass 81 = .ok (.getfield 9, 3) := by decide +kernel
theorem dX4_pass_84 : decode cX4_pass 84 = .ok (.aload_n 1, 1) := by decide +kernel
theorem dX4_pass_85 : decode cX4_pass 85 = .ok (.aload_n 2, 1) := by decide +kernel
theorem dX4_pass_86 : decode cX4_pass 86 = .ok (.iload_n 3, 1) := by decide +kernel
theorem dX4_pass_87 : decode cX4_pass 87 = .ok (.iload 6, 2) := by decide +kernel
theorem dX4_pass_89 : decode cX4_pass 89 = .ok (.invokevirtual 50, 3) := by decide +kernel
theorem dX4_pass_92 : decode cX4_pass 92 = .ok (.invokevirtual 63, 3) := by decide +kernel
theorem dX4_pass_95 : decode cX4_pass 95 = .ok (.iadd, 1) := by decide +kernel
theorem dX4_pass_96 : decode cX4_pass 96 = .ok (.putfield 9, 3) := by decide +kernel
theorem dX4_pass_99 : decode cX4_pass 99 = .ok (.iinc 6 1, 3) := by decide +kernel
theorem dX4_pass_102 : decode cX4_pass 102 = .ok (.goto (-87), 3) := by decide +kernel
theorem dX4_pass_105 : decode cX4_pass 105 = .ok (.aload_n 0, 1) := by decide +kernel
theorem dX4_pass_106 : decode cX4_pass 106 = .ok (.dup, 1) := by decide +kernel
theorem dX4_pass_107 : decode cX4_pass 107 = .ok (.getfield 18, 3) := by decide +kernel
theorem dX4_pass_110 : decode cX4_pass 110 = .ok (.iconst 1, 1) := by decide +kernel
theorem dX4_pass_111 : decode cX4_pass 111 = .ok (.iadd, 1) := by decide +kernel
theorem dX4_pass_112 : decode cX4_pass 112 = .ok (.putfield 18, 3) := by decide +kernel
theorem dX4_pass_115 : decode cX4_pass 115 = .ok (.iload 5, 2) := by decide +kernel
theorem dX4_pass_117 : decode cX4_pass 117 = .ok (.ifCond .ne 13, 3) := by decide +kernel
theorem dX4_pass_120 : decode cX4_pass 120 = .ok (.aload_n 0, 1) := by decide +kernel
theorem dX4_pass_121 : decode cX4_pass 121 = .ok (.dup, 1) := by decide +kernel
theorem dX4_pass_122 : decode cX4_pass 122 = .ok (.getfield 21, 3) := by decide +kernel
theorem dX4_pass_125 : decode cX4_pass 125 = .ok (.iconst 1, 1) := by decide +kernel
theorem dX4_pass_126 : decode cX4_pass 126 = .ok (.iadd, 1) := by decide +kernel
theorem dX4_pass_127 : decode cX4_pass 127 = .ok (.putfield 21, 3) := by decide +kernel
theorem dX4_pass_130 : decode cX4_pass 130 = .ok (.aload_n 0, 1) := by decide +kernel
theorem dX4_pass_131 : decode cX4_pass 131 = .ok (.aload_n 2, 1) := by decide +kernel
theorem dX4_pass_132 : decode cX4_pass 132 = .ok (.iload_n 3, 1) := by decide +kernel
theorem dX4_pass_133 : decode cX4_pass 133 = .ok (.invokevirtual 66, 3) := by decide +kernel
theorem dX4_pass_136 : decode cX4_pass 136 = .ok (.aload_n 2, 1) := by decide +kernel
theorem dX4_pass_137 : decode cX4_pass 137 = .ok (.iload_n 3, 1) := by decide +kernel
theorem dX4_pass_138 : decode cX4_pass 138 = .ok (.invokevirtual 69, 3) := by decide +kernel
theorem dX4_pass_141 : decode cX4_pass 141 = .ok (.iload 5, 2) := by decide +kernel
theorem dX4_pass_143 : decode cX4_pass 143 = .ok (.ifCond .eq 7, 3) := by decide +kernel
theorem dX4_pass_146 : decode cX4_pass 146 = .ok (.iconst 0, 1) := by decide +kernel
theorem dX4_pass_147 : decode cX4_pass 147 = .ok (.goto 4, 3) := by decide +kernel
theorem dX4_pass_150 : decode cX4_pass 150 = .ok (.iconst 1, 1) := by decide +kernel
theorem dX4_pass_151 : decode cX4_pass 151 = .ok (.invokevirtual 72, 3) := by decide +kernel
theorem dX4_pass_154 : decode cX4_pass 154 = .ok (.iload 5, 2) := by decide +kernel
theorem dX4_pass_156 : decode cX4_pass 156 = .ok (.ifCond .ne 7, 3) := by decide +kernel
theorem dX4_pass_159 : decode cX4_pass 159 = .ok (.iconst 1, 1) := by decide +kernel
theorem dX4_pass_160 : decode cX4_pass 160 = .ok (.goto 4, 3) := by decide +kernel
theorem dX4_pass_163 : decode cX4_pass 163 = .ok (.iconst 0, 1) := by decide +kernel
theorem dX4_pass_164 : decode cX4_pass 164 = .ok (.ireturn, 1) := by decide +kernel
theorem dX4_keep_0 : decode cX4_keep 0 = .ok (.aload_n 0, 1) := by decide +kernel
theorem dX4_keep_1 : decode cX4_keep 1 = .ok (.getfield 24, 3) := by decide +kernel
theorem dX4_keep_4 : decode cX4_keep 4 = .ok (.bipush 16, 2) := by decide +kernel
theorem dX4_keep_6 : decode cX4_keep 6 = .ok (.if_icmp .lt 54, 3) := by decide +kernel
theorem dX4_keep_9 : decode cX4_keep 9 = .ok (.aload_n 0, 1) := by decide +kernel
theorem dX4_keep_10 : decode cX4_keep 10 = .ok (.getfield 27, 3) := by decide +kernel
theorem dX4_keep_13 : decode cX4_keep 13 = .ok (.iconst 1, 1) := by decide +kernel
theorem dX4_keep_14 : decode cX4_keep 14 = .ok (.aload_n 0, 1) := by decide +kernel
theorem dX4_keep_15 : decode cX4_keep 15 = .ok (.getfield 27, 3) := by decide +kernel
theorem dX4_keep_18 : decode cX4_keep 18 = .ok (.iconst 0, 1) := by decide +kernel
theorem dX4_keep_19 : decode cX4_keep 19 = .ok (.bipush 15, 2) := by decide +kernel
theorem dX4_keep_21 : decode cX4_keep 21 = .ok (.invokestatic 37, 3) := by decide +kernel
theorem dX4_keep_24 : decode cX4_keep 24 = .ok (.aload_n 0, 1) := by decide +kernel
theorem dX4_keep_25 : decode cX4_keep 25 = .ok (.getfield 31, 3) := by decide +kernel
theorem dX4_keep_28 : decode cX4_keep 28 = .ok (.iconst 1, 1) := by decide +kernel
theorem dX4_keep_29 : decode cX4_keep 29 = .ok (.aload_n 0, 1) := by decide +kernel
theorem dX4_keep_30 : decode cX4_keep 30 = .ok (.getfield 31, 3) := by decide +kernel
theorem dX4_keep_33 : decode cX4_keep 33 = .ok (.iconst 0, 1) := by decide +kernel
theorem dX4_keep_34 : decode cX4_keep 34 = .ok (.bipush 15, 2) := by decide +kernel
theorem dX4_keep_36 : decode cX4_keep 36 = .ok (.invokestatic 37, 3) := by decide +kernel
theorem dX4_keep_39 : decode cX4_keep 39 = .ok (.aload_n 0, 1) := by decide +kernel
theorem dX4_keep_40 : decode cX4_keep 40 = .ok (.getfield 34, 3) := by decide +kernel
theorem dX4_keep_43 : decode cX4_keep 43 = .ok (.iconst 1, 1) := by decide +kernel
theorem dX4_keep_44 : decode cX4_keep 44 = .ok (.aload_n 0, 1) := by decide +kernel
theorem dX4_keep_45 : decode cX4_keep 45 = .ok (.getfield 34, 3) := by decide +kernel
theorem dX4_keep_48 : decode cX4_keep 48 = .ok (.iconst 0, 1) := by decide +kernel
theorem dX4_keep_49 : decode cX4_keep 49 = .ok (.bipush 15, 2) := by decide +kernel
theorem dX4_keep_51 : decode cX4_keep 51 = .ok (.invokestatic 37, 3) := by decide +kernel
theorem dX4_keep_54 : decode cX4_keep 54 = .ok (.aload_n 0, 1) := by decide +kernel
theorem dX4_keep_55 : decode cX4_keep 55 = .ok (.bipush 15, 2) := by decide +kernel
theorem dX4_keep_57 : decode cX4_keep 57 = .ok (.putfield 24, 3) := by decide +kernel
theorem dX4_keep_60 : decode cX4_keep 60 = .ok (.aload_n 0, 1) := by decide +kernel
theorem dX4_keep_61 : decode cX4_keep 61 = .ok (.getfield 24, 3) := by decide +kernel
theorem dX4_keep_64 : decode cX4_keep 64 = .ok (.ifCond .lt 43, 3) := by decide +kernel
theorem dX4_keep_67 : decode cX4_keep 67 = .ok (.aload_n 0, 1) := by decide +kernel
theorem dX4_keep_68 : decode cX4_keep 68 = .ok (.getfield 27, 3) := by decide +kernel
theorem dX4_keep_71 : decode cX4_keep 71 = .ok (.aload_n 0, 1) := by decide +kernel
theorem dX4_keep_72 : decode cX4_keep 72 = .ok (.getfield 24, 3) := by decide +kernel
theorem dX4_keep_75 : decode cX4_keep 75 = .ok (.iload_n 1, 1) := by decide +kernel
theorem dX4_keep_76 : decode cX4_keep 76 = .ok (.iastore, 1) := by decide +kernel
theorem dX4_keep_77 : decode cX4_keep 77 = .ok (.aload_n 0, 1) := by decide +kernel
theorem dX4_keep_78 : decode cX4_keep 78 = .ok (.getfield 31, 3) := by decide +kernel
theorem dX4_keep_81 : decode cX4_keep 81 = .ok (.aload_n 0, 1) := by decide +kernel
theorem dX4_keep_82 : decode cX4_keep 82 = .ok (.getfield 24, 3) := by decide +kernel
theorem dX4_keep_85 : decode cX4_keep 85 = .ok (.iload_n 2, 1) := by decide +kernel
theorem dX4_keep_86 : decode cX4_keep 86 = .ok (.iastore, 1) := by decide +kernel
theorem dX4_keep_87 : decode cX4_keep 87 = .ok (.aload_n 0, 1) := by decide +kernel
theorem dX4_keep_88 : decode cX4_keep 88 = .ok (.getfield 34, 3) := by decide +kernel
theorem dX4_keep_91 : decode cX4_keep 91 = .ok (.aload_n 0, 1) := by decide +kernel
theorem dX4_keep_92 : decode cX4_keep 92 = .ok (.getfield 24, 3) := by decide +kernel
theorem dX4_keep_95 : decode cX4_keep 95 = .ok (.iload_n 3, 1) := by decide +kernel
theorem dX4_keep_96 : decode cX4_keep 96 = .ok (.iastore, 1) := by decide +kernel
theorem dX4_keep_97 : decode cX4_keep 97 = .ok (.aload_n 0, 1) := by decide +kernel
theorem dX4_keep_98 : decode cX4_keep 98 = .ok (.dup, 1) := by decide +kernel
theorem dX4_keep_99 : decode cX4_keep 99 = .ok (.getfield 24, 3) := by decide +kernel
theorem dX4_keep_102 : decode cX4_keep 102 = .ok (.iconst 1, 1) := by decide +kernel
theorem dX4_keep_103 : decode cX4_keep 103 = .ok (.iadd, 1) := by decide +kernel
theorem dX4_keep_104 : decode cX4_keep 104 = .ok (.putfield 24, 3) := by decide +kernel
theorem dX4_keep_107 : decode cX4_keep 107 = .ok (.return_, 1) := by decide +kernel
theorem dX4_hasNote_0 : decode cX4_hasNote 0 = .ok (.iload_n 1, 1) := by decide +kernel
theorem dX4_hasNote_1 : decode cX4_hasNote 1 = .ok (.ifCond .lt 21, 3) := by decide +kernel
theorem dX4_hasNote_4 : decode cX4_hasNote 4 = .ok (.iload_n 1, 1) := by decide +kernel
theorem dX4_hasNote_5 : decode cX4_hasNote 5 = .ok (.aload_n 0, 1) := by decide +kernel
theorem dX4_hasNote_6 : decode cX4_hasNote 6 = .ok (.getfield 24, 3) := by decide +kernel
theorem dX4_hasNote_9 : decode cX4_hasNote 9 = .ok (.if_icmp .ge 13, 3) := by decide +kernel
theorem dX4_hasNote_12 : decode cX4_hasNote 12 = .ok (.iload_n 1, 1) := by decide +kernel
theorem dX4_hasNote_13 : decode cX4_hasNote 13 = .ok (.bipush 16, 2) := by decide +kernel
theorem dX4_hasNote_15 : decode cX4_hasNote 15 = .ok (.if_icmp .ge 7, 3) := by decide +kernel
theorem dX4_hasNote_18 : decode cX4_hasNote 18 = .ok (.iconst 1, 1) := by decide +kernel
theorem dX4_hasNote_19 : decode cX4_hasNote 19 = .ok (.goto 4, 3) := by decide +kernel
theorem dX4_hasNote_22 : decode cX4_hasNote 22 = .ok (.iconst 0, 1) := by decide +kernel
theorem dX4_hasNote_23 : decode cX4_hasNote 23 = .ok (.ireturn, 1) := by decide +kernel
theorem dX4_allOf_0 : decode cX4_allOf 0 = .ok (.aload_n 0, 1) := by decide +kernel
theorem dX4_allOf_1 : decode cX4_allOf 1 = .ok (.iload_n 1, 1) := by decide +kernel
theorem dX4_allOf_2 : decode cX4_allOf 2 = .ok (.invokevirtual 76, 3) := by decide +kernel
theorem dX4_allOf_5 : decode cX4_allOf 5 = .ok (.ifCond .eq 12, 3) := by decide +kernel
theorem dX4_allOf_8 : decode cX4_allOf 8 = .ok (.aload_n 0, 1) := by decide +kernel
theorem dX4_allOf_9 : decode cX4_allOf 9 = .ok (.getfield 27, 3) := by decide +kernel
theorem dX4_allOf_12 : decode cX4_allOf 12 = .ok (.iload_n 1, 1) := by decide +kernel
theorem dX4_allOf_13 : decode cX4_allOf 13 = .ok (.iaload, 1) := by decide +kernel
theorem dX4_allOf_14 : decode cX4_allOf 14 = .ok (.goto 4, 3) := by decide +kernel
theorem dX4_allOf_17 : decode cX4_allOf 17 = .ok (.iconst 0, 1) := by decide +kernel
theorem dX4_allOf_18 : decode cX4_allOf 18 = .ok (.ireturn, 1) := by decide +kernel
theorem dX4_hasCome_0 : decode cX4_hasCome 0 = .ok (.aload_n 0, 1) := by decide +kernel
theorem dX4_hasCome_1 : decode cX4_hasCome 1 = .ok (.iload_n 1, 1) := by decide +kernel
theorem dX4_hasCome_2 : decode cX4_hasCome 2 = .ok (.invokevirtual 76, 3) := by decide +kernel
theorem dX4_hasCome_5 : decode cX4_hasCome 5 = .ok (.ifCond .eq 17, 3) := by decide +kernel
theorem dX4_hasCome_8 : decode cX4_hasCome 8 = .ok (.aload_n 0, 1) := by decide +kernel
theorem dX4_hasCome_9 : decode cX4_hasCome 9 = .ok (.getfield 34, 3) := by decide +kernel
theorem dX4_hasCome_12 : decode cX4_hasCome 12 = .ok (.iload_n 1, 1) := by decide +kernel
theorem dX4_hasCome_13 : decode cX4_hasCome 13 = .ok (.iaload, 1) := by decide +kernel
theorem dX4_hasCome_14 : decode cX4_hasCome 14 = .ok (.iconst 1, 1) := by decide +kernel
theorem dX4_hasCome_15 : decode cX4_hasCome 15 = .ok (.if_icmp .ne 7, 3) := by decide +kernel
theorem dX4_hasCome_18 : decode cX4_hasCome 18 = .ok (.iconst 1, 1) := by decide +kernel
theorem dX4_hasCome_19 : decode cX4_hasCome 19 = .ok (.goto 4, 3) := by decide +kernel
theorem dX4_hasCome_22 : decode cX4_hasCome 22 = .ok (.iconst 0, 1) := by decide +kernel
theorem dX4_hasCome_23 : decode cX4_hasCome 23 = .ok (.ireturn, 1) := by decide +kernel
theorem dX4_lostBy_0 : decode cX4_lostBy 0 = .ok (.iconst 0, 1) := by decide +kernel
theorem dX4_lostBy_1 : decode cX4_lostBy 1 = .ok (.istore_n 2, 1) := by decide +kernel
theorem dX4_lostBy_2 : decode cX4_lostBy 2 = .ok (.iconst 0, 1) := by decide +kernel
theorem dX4_lostBy_3 : decode cX4_lostBy 3 = .ok (.istore_n 3, 1) := by decide +kernel
theorem dX4_lostBy_4 : decode cX4_lostBy 4 = .ok (.iload_n 3, 1) := by decide +kernel
theorem dX4_lostBy_5 : decode cX4_lostBy 5 = .ok (.aload_n 0, 1) := by decide +kernel
theorem dX4_lostBy_6 : decode cX4_lostBy 6 = .ok (.getfield 24, 3) := by decide +kernel
theorem dX4_lostBy_9 : decode cX4_lostBy 9 = .ok (.if_icmp .ge 43, 3) := by decide +kernel
theorem dX4_lostBy_12 : decode cX4_lostBy 12 = .ok (.iload_n 3, 1) := by decide +kernel
theorem dX4_lostBy_13 : decode cX4_lostBy 13 = .ok (.bipush 16, 2) := by decide +kernel
theorem dX4_lostBy_15 : decode cX4_lostBy 15 = .ok (.if_icmp .ge 37, 3) := by decide +kernel
theorem dX4_lostBy_18 : decode cX4_lostBy 18 = .ok (.aload_n 0, 1) := by decide +kernel
theorem dX4_lostBy_19 : decode cX4_lostBy 19 = .ok (.getfield 31, 3) := by decide +kernel
theorem dX4_lostBy_22 : decode cX4_lostBy 22 = .ok (.iload_n 3, 1) := by decide +kernel
theorem dX4_lostBy_23 : decode cX4_lostBy 23 = .ok (.iaload, 1) := by decide +kernel
theorem dX4_lostBy_24 : decode cX4_lostBy 24 = .ok (.iload_n 1, 1) := by decide +kernel
theorem dX4_lostBy_25 : decode cX4_lostBy 25 = .ok (.ishr, 1) := by decide +kernel
theorem dX4_lostBy_26 : decode cX4_lostBy 26 = .ok (.iconst 1, 1) := by decide +kernel
theorem dX4_lostBy_27 : decode cX4_lostBy 27 = .ok (.iand, 1) := by decide +kernel
theorem dX4_lostBy_28 : decode cX4_lostBy 28 = .ok (.ifCond .eq 18, 3) := by decide +kernel
theorem dX4_lostBy_31 : decode cX4_lostBy 31 = .ok (.aload_n 0, 1) := by decide +kernel
theorem dX4_lostBy_32 : decode cX4_lostBy 32 = .ok (.getfield 34, 3) := by decide +kernel
theorem dX4_lostBy_35 : decode cX4_lostBy 35 = .ok (.iload_n 3, 1) := by decide +kernel
theorem dX4_lostBy_36 : decode cX4_lostBy 36 = .ok (.iaload, 1) := by decide +kernel
theorem dX4_lostBy_37 : decode cX4_lostBy 37 = .ok (.iconst 1, 1) := by decide +kernel
theorem dX4_lostBy_38 : decode cX4_lostBy 38 = .ok (.if_icmp .ne 5, 3) := by decide +kernel
theorem dX4_lostBy_41 : decode cX4_lostBy 41 = .ok (.iconst 0, 1) := by decide +kernel
theorem dX4_lostBy_42 : decode cX4_lostBy 42 = .ok (.ireturn, 1) := by decide +kernel
theorem dX4_lostBy_43 : decode cX4_lostBy 43 = .ok (.iinc 2 1, 3) := by decide +kernel
theorem dX4_lostBy_46 : decode cX4_lostBy 46 = .ok (.iinc 3 1, 3) := by decide +kernel
theorem dX4_lostBy_49 : decode cX4_lostBy 49 = .ok (.goto (-45), 3) := by decide +kernel
theorem dX4_lostBy_52 : decode cX4_lostBy 52 = .ok (.iload_n 2, 1) := by decide +kernel
theorem dX4_lostBy_53 : decode cX4_lostBy 53 = .ok (.ireturn, 1) := by decide +kernel
theorem dX5_init_0 : decode cX5_init 0 = .ok (.aload_n 0, 1) := by decide +kernel
theorem dX5_init_1 : decode cX5_init 1 = .ok (.invokespecial 3, 3) := by decide +kernel
theorem dX5_init_4 : decode cX5_init 4 = .ok (.aload_n 0, 1) := by decide +kernel
theorem dX5_init_5 : decode cX5_init 5 = .ok (.iconst (-1), 1) := by decide +kernel
theorem dX5_init_6 : decode cX5_init 6 = .ok (.putfield 9, 3) := by decide +kernel
theorem dX5_init_9 : decode cX5_init 9 = .ok (.aload_n 0, 1) := by decide +kernel
theorem dX5_init_10 : decode cX5_init 10 = .ok (.iconst 0, 1) := by decide +kernel
theorem dX5_init_11 : decode cX5_init 11 = .ok (.putfield 15, 3) := by decide +kernel
theorem dX5_init_14 : decode cX5_init 14 = .ok (.aload_n 0, 1) := by decide +kernel
theorem dX5_init_15 : decode cX5_init 15 = .ok (.iconst 0, 1) := by decide +kernel
theorem dX5_init_16 : decode cX5_init 16 = .ok (.putfield 18, 3) := by decide +kernel
theorem dX5_init_19 : decode cX5_init 19 = .ok (.aload_n 0, 1) := by decide +kernel
theorem dX5_init_20 : decode cX5_init 20 = .ok (.iconst 0, 1) := by decide +kernel
theorem dX5_init_21 : decode cX5_init 21 = .ok (.putfield 21, 3) := by decide +kernel
theorem dX5_init_24 : decode cX5_init 24 = .ok (.return_, 1) := by decide +kernel
theorem dX5_take_0 : decode cX5_take 0 = .ok (.aload_n 0, 1) := by decide +kernel
theorem dX5_take_1 : decode cX5_take 1 = .ok (.iload_n 3, 1) := by decide +kernel
theorem dX5_take_2 : decode cX5_take 2 = .ok (.putfield 9, 3) := by decide +kernel
theorem dX5_take_5 : decode cX5_take 5 = .ok (.aload_n 0, 1) := by decide +kernel
theorem dX5_take_6 : decode cX5_take 6 = .ok (.ldc 25, 2) := by decide +kernel
theorem dX5_take_8 : decode cX5_take 8 = .ok (.putfield 15, 3) := by decide +kernel
theorem dX5_take_11 : decode cX5_take 11 = .ok (.aload_n 0, 1) := by decide +kernel
theorem dX5_take_12 : decode cX5_take 12 = .ok (.iconst 0, 1) := by decide +kernel
theorem dX5_take_13 : decode cX5_take 13 = .ok (.putfield 18, 3) := by decide +kernel
theorem dX5_take_16 : decode cX5_take 16 = .ok (.aload_n 0, 1) := by decide +kernel
theorem dX5_take_17 : decode cX5_take 17 = .ok (.iconst 0, 1) := by decide +kernel
theorem dX5_take_18 : decode cX5_take 18 = .ok (.putfield 21, 3) := by decide +kernel
theorem dX5_take_21 : decode cX5_take 21 = .ok (.aload_n 2, 1) := by decide +kernel
theorem dX5_take_22 : decode cX5_take 22 = .ok (.iload_n 3, 1) := by decide +kernel
theorem dX5_take_23 : decode cX5_take 23 = .ok (.invokevirtual 26, 3) := by decide +kernel
theorem dX5_take_26 : decode cX5_take 26 = .ok (.iconst 1, 1) := by decide +kernel
theorem dX5_take_27 : decode cX5_take 27 = .ok (.isub, 1) := by decide +kernel
theorem dX5_take_28 : decode cX5_take 28 = .ok (.istore 5, 2) := by decide +kernel
theorem dX5_take_30 : decode cX5_take 30 = .ok (.iconst 0, 1) := by decide +kernel
theorem dX5_take_31 : decode cX5_take 31 = .ok (.istore 6, 2) := by decide +kernel
theorem dX5_take_33 : decode cX5_take 33 = .ok (.iload 6, 2) := by decide +kernel
theorem dX5_take_35 : decode cX5_take 35 = .ok (.iload 5, 2) := by decide +kernel
theorem dX5_take_37 : decode cX5_take 37 = .ok (.if_icmp .ge 113, 3) := by decide +kernel
theorem dX5_take_40 : decode cX5_take 40 = .ok (.iload 4, 2) := by decide +kernel
theorem dX5_take_42 : decode cX5_take 42 = .ok (.aload_n 0, 1) := by decide +kernel
theorem dX5_take_43 : decode cX5_take 43 = .ok (.getfield 18, 3) := by decide +kernel
theorem dX5_take_46 : decode cX5_take 46 = .ok (.iadd, 1) := by decide +kernel
theorem dX5_take_47 : decode cX5_take 47 = .ok (.istore 7, 2) := by decide +kernel
theorem dX5_take_49 : decode cX5_take 49 = .ok (.aload_n 1, 1) := by decide +kernel
theorem dX5_take_50 : decode cX5_take 50 = .ok (.aload_n 2, 1) := by decide +kernel
theorem dX5_take_51 : decode cX5_take 51 = .ok (.iload_n 3, 1) := by decide +kernel
theorem dX5_take_52 : decode cX5_take 52 = .ok (.iload 6, 2) := by decide +kernel
theorem dX5_take_54 : decode cX5_take 54 = .ok (.iconst 1, 1) := by decide +kernel
theorem dX5_take_55 : decode cX5_take 55 = .ok (.iadd, 1) := by decide +kernel
theorem dX5_take_56 : decode cX5_take 56 = .ok (.invokevirtual 32, 3) := by decide +kernel
theorem dX5_take_59 : decode cX5_take 59 = .ok (.iload 6, 2) := by decide +kernel
theorem dX5_take_61 : decode cX5_take 61 = .ok (.iload 5, 2) := by decide +kernel
theorem dX5_take_63 : decode cX5_take 63 = .ok (.iconst 1, 1) := by decide +kernel
theorem dX5_take_64 : decode cX5_take 64 = .ok (.isub, 1) := by decide +kernel
theorem dX5_take_65 : decode cX5_take 65 = .ok (.if_icmp .ne 7, 3) := by decide +kernel
theorem dX5_take_68 : decode cX5_take 68 = .ok (.iconst 1, 1) := by decide +kernel
theorem dX5_take_69 : decode cX5_take 69 = .ok (.goto 4, 3) := by decide +kernel
theorem dX5_take_72 : decode cX5_take 72 = .ok (.iconst 0, 1) := by decide +kernel
theorem dX5_take_73 : decode cX5_take 73 = .ok (.iload 7, 2) := by decide +kernel
theorem dX5_take_75 : decode cX5_take 75 = .ok (.invokevirtual 36, 3) := by decide +kernel
theorem dX5_take_78 : decode cX5_take 78 = .ok (.istore 8, 2) := by decide +kernel
theorem dX5_take_80 : decode cX5_take 80 = .ok (.aload_n 0, 1) := by decide +kernel
theorem dX5_take_81 : decode cX5_take 81 = .ok (.aload_n 0, 1) := by decide +kernel
theorem dX5_take_82 : decode cX5_take 82 = .ok (.getfield 15, 3) := by decide +kernel
theorem dX5_take_85 : decode cX5_take 85 = .ok (.sipush 1000, 3) := by decide +kernel
theorem dX5_take_88 : decode cX5_take 88 = .ok (.iload 8, 2) := by decide +kernel
theorem dX5_take_90 : decode cX5_take 90 = .ok (.isub, 1) := by decide +kernel
theorem dX5_take_91 : decode cX5_take 91 = .ok (.imul, 1) := by decide +kernel
theorem dX5_take_92 : decode cX5_take 92 = .ok (.sipush 1000, 3) := by decide +kernel
theorem dX5_take_95 : decode cX5_take 95 = .ok (.idiv, 1) := by decide +kernel
theorem dX5_take_96 : decode cX5_take 96 = .ok (.putfield 15, 3) := by decide +kernel
theorem dX5_take_99 : decode cX5_take 99 = .ok (.aload_n 0, 1) := by decide +kernel
theorem dX5_take_100 : decode cX5_take 100 = .ok (.aload_n 0, 1) := by decide +kernel
theorem dX5_take_101 : decode cX5_take 101 = .ok (.getfield 21, 3) := by decide +kernel
theorem dX5_take_104 : decode cX5_take 104 = .ok (.ifCond .ne 12, 3) := by decide +kernel
theorem dX5_take_107 : decode cX5_take 107 = .ok (.aload_n 1, 1) := by decide +kernel
theorem dX5_take_108 : decode cX5_take 108 = .ok (.iload 7, 2) := by decide +kernel
theorem dX5_take_110 : decode cX5_take 110 = .ok (.invokevirtual 42, 3) := by decide +kernel
theorem dX5_take_113 : decode cX5_take 113 = .ok (.ifCond .eq 7, 3) := by decide +kernel
theorem dX5_take_116 : decode cX5_take 116 = .ok (.iconst 1, 1) := by decide +kernel
theorem dX5_take_117 : decode cX5_take 117 = .ok (.goto 4, 3) := by decide +kernel
theorem dX5_take_120 : decode cX5_take 120 = .ok (.iconst 0, 1) := by decide +kernel
theorem dX5_take_121 : decode cX5_take 121 = .ok (.putfield 21, 3) := by decide +kernel
theorem dX5_take_124 : decode cX5_take 124 = .ok (.aload_n 0, 1) := by decide +kernel
theorem dX5_take_125 : decode cX5_take 125 = .ok (.dup, 1) := by decide +kernel
theorem dX5_take_126 : decode cX5_take 126 = .ok (.getfield 18, 3) := by decide +kernel
theorem dX5_take_129 : decode cX5_take 129 = .ok (.aload_n 1, 1) := by decide +kernel
theorem dX5_take_130 : decode cX5_take 130 = .ok (.aload_n 2, 1) := by decide +kernel
theorem dX5_take_131 : decode cX5_take 131 = .ok (.iload_n 3, 1) := by decide +kernel
theorem dX5_take_132 : decode cX5_take 132 = .ok (.iload 6, 2) := by decide +kernel
theorem dX5_take_134 : decode cX5_take 134 = .ok (.invokevirtual 32, 3) := by decide +kernel
theorem dX5_take_137 : decode cX5_take 137 = .ok (.invokevirtual 46, 3) := by decide +kernel
theorem dX5_take_140 : decode cX5_take 140 = .ok (.iadd, 1) := by decide +kernel
theorem dX5_take_141 : decode cX5_take 141 = .ok (.putfield 18, 3) := by decide +kernel
theorem dX5_take_144 : decode cX5_take 144 = .ok (.iinc 6 1, 3) := by decide +kernel
theorem dX5_take_147 : decode cX5_take 147 = .ok (.goto (-114), 3) := by decide +kernel
theorem dX5_take_150 : decode cX5_take 150 = .ok (.return_, 1) := by decide +kernel
theorem dX5_takeSurest_0 : decode cX5_takeSurest 0 = .ok (.iconst (-1), 1) := by decide +kernel
theorem dX5_takeSurest_1 : decode cX5_takeSurest 1 = .ok (.istore 5, 2) := by decide +kernel
theorem dX5_takeSurest_3 : decode cX5_takeSurest 3 = .ok (.iconst (-1), 1) := by decide +kernel
theorem dX5_takeSurest_4 : decode cX5_takeSurest 4 = .ok (.istore 6, 2) := by decide +kernel
theorem dX5_takeSurest_6 : decode cX5_takeSurest 6 = .ok (.iconst 0, 1) := by decide +kernel
theorem dX5_takeSurest_7 : decode cX5_takeSurest 7 = .ok (.istore 7, 2) := by decide +kernel
theorem dX5_takeSurest_9 : decode cX5_takeSurest 9 = .ok (.iload 7, 2) := by decide +kernel
theorem dX5_takeSurest_11 : decode cX5_takeSurest 11 = .ok (.aload_n 2, 1) := by decide +kernel
theorem dX5_takeSurest_12 : decode cX5_takeSurest 12 = .ok (.getfield 49, 3) := by decide +kernel
theorem dX5_takeSurest_15 : decode cX5_takeSurest 15 = .ok (.if_icmp .ge 84, 3) := by decide +kernel
theorem dX5_takeSurest_18 : decode cX5_takeSurest 18 = .ok (.aload_n 0, 1) := by decide +kernel
theorem dX5_takeSurest_19 : decode cX5_takeSurest 19 = .ok (.aload_n 1, 1) := by decide +kernel
theorem dX5_takeSurest_20 : decode cX5_takeSurest 20 = .ok (.aload_n 2, 1) := by decide +kernel
theorem dX5_takeSurest_21 : decode cX5_takeSurest 21 = .ok (.iload 7, 2) := by decide +kernel
theorem dX5_takeSurest_23 : decode cX5_takeSurest 23 = .ok (.iload_n 3, 1) := by decide +kernel
theorem dX5_takeSurest_24 : decode cX5_takeSurest 24 = .ok (.invokevirtual 52, 3) := by decide +kernel
theorem dX5_takeSurest_27 : decode cX5_takeSurest 27 = .ok (.aload_n 0, 1) := by decide +kernel
theorem dX5_takeSurest_28 : decode cX5_takeSurest 28 = .ok (.getfield 15, 3) := by decide +kernel
theorem dX5_takeSurest_31 : decode cX5_takeSurest 31 = .ok (.iload 6, 2) := by decide +kernel
theorem dX5_takeSurest_33 : decode cX5_takeSurest 33 = .ok (.if_icmp .gt 27, 3) := by decide +kernel
theorem dX5_takeSurest_36 : decode cX5_takeSurest 36 = .ok (.aload_n 0, 1) := by decide +kernel
theorem dX5_takeSurest_37 : decode cX5_takeSurest 37 = .ok (.getfield 15, 3) := by decide +kernel
theorem dX5_takeSurest_40 : decode cX5_takeSurest 40 = .ok (.iload 6, 2) := by decide +kernel
theorem dX5_takeSurest_42 : decode cX5_takeSurest 42 = .ok (.if_icmp .ne 22, 3) := by decide +kernel
theorem dX5_takeSurest_45 : decode cX5_takeSurest 45 = .ok (.aload_n 2, 1) := by decide +kernel
theorem dX5_takeSurest_46 : decode cX5_takeSurest 46 = .ok (.iload 7, 2) := by decide +kernel
theorem dX5_takeSurest_48 : decode cX5_takeSurest 48 = .ok (.invokevirtual 26, 3) := by decide +kernel
theorem dX5_takeSurest_51 : decode cX5_takeSurest 51 = .ok (.aload_n 2, 1) := by decide +kernel
theorem dX5_takeSurest_52 : decode cX5_takeSurest 52 = .ok (.iload 5, 2) := by decide +kernel
theorem dX5_takeSurest_54 : decode cX5_takeSurest 54 = .ok (.invokevirtual 26, 3) := by decide +kernel
theorem dX5_takeSurest_57 : decode cX5_takeSurest 57 = .ok (.if_icmp .ge 7, 3) := by decide +kernel
theorem dX5_takeSurest_60 : decode cX5_takeSurest 60 = .ok (.iconst 1, 1) := by decide +kernel
theorem dX5_takeSurest_61 : decode cX5_takeSurest 61 = .ok (.goto 4, 3) := by decide +kernel
theorem dX5_takeSurest_64 : decode cX5_takeSurest 64 = .ok (.iconst 0, 1) := by decide +kernel
theorem dX5_takeSurest_65 : decode cX5_takeSurest 65 = .ok (.istore 8, 2) := by decide +kernel
theorem dX5_takeSurest_67 : decode cX5_takeSurest 67 = .ok (.iload 8, 2) := by decide +kernel
theorem dX5_takeSurest_69 : decode cX5_takeSurest 69 = .ok (.ifCond .eq 24, 3) := by decide +kernel
theorem dX5_takeSurest_72 : decode cX5_takeSurest 72 = .ok (.aload_n 0, 1) := by decide +kernel
theorem dX5_takeSurest_73 : decode cX5_takeSurest 73 = .ok (.aload_n 1, 1) := by decide +kernel
theorem dX5_takeSurest_74 : decode cX5_takeSurest 74 = .ok (.aload_n 2, 1) := by decide +kernel
theorem dX5_takeSurest_75 : decode cX5_takeSurest 75 = .ok (.iload 4, 2) := by decide +kernel
theorem dX5_takeSurest_77 : decode cX5_takeSurest 77 = .ok (.invokevirtual 56, 3) := by decide +kernel
theorem dX5_takeSurest_80 : decode cX5_takeSurest 80 = .ok (.ifCond .eq 13, 3) := by decide +kernel
theorem dX5_takeSurest_83 : decode cX5_takeSurest 83 = .ok (.iload 7, 2) := by decide +kernel
theorem dX5_takeSurest_85 : decode cX5_takeSurest 85 = .ok (.istore 5, 2) := by decide +kernel
theorem dX5_takeSurest_87 : decode cX5_takeSurest 87 = .ok (.aload_n 0, 1) := by decide +kernel
theorem dX5_takeSurest_88 : decode cX5_takeSurest 88 = .ok (.getfield 15, 3) := by decide +kernel
theorem dX5_takeSurest_91 : decode cX5_takeSurest 91 = .ok (.istore 6, 2) := by decide +kernel
theorem dX5_takeSurest_93 : decode cX5_takeSurest 93 = .ok (.iinc 7 1, 3) := by decide +kernel
theorem dX5_takeSurest_96 : decode cX5_takeSurest 96 = .ok (.goto (-87), 3) := by decide +kernel
theorem dX5_takeSurest_99 : decode cX5_takeSurest 99 = .ok (.aload_n 0, 1) := by decide +kernel
theorem dX5_takeSurest_100 : decode cX5_takeSurest 100 = .ok (.aload_n 1, 1) := by decide +kernel
theorem dX5_takeSurest_101 : decode cX5_takeSurest 101 = .ok (.aload_n 2, 1) := by decide +kernel
theorem dX5_takeSurest_102 : decode cX5_takeSurest 102 = .ok (.iload 5, 2) := by decide +kernel
theorem dX5_takeSurest_104 : decode cX5_takeSurest 104 = .ok (.iload_n 3, 1) := by decide +kernel
theorem dX5_takeSurest_105 : decode cX5_takeSurest 105 = .ok (.invokevirtual 52, 3) := by decide +kernel
theorem dX5_takeSurest_108 : decode cX5_takeSurest 108 = .ok (.iload 5, 2) := by decide +kernel
theorem dX5_takeSurest_110 : decode cX5_takeSurest 110 = .ok (.iconst (-1), 1) := by decide +kernel
theorem dX5_takeSurest_111 : decode cX5_takeSurest 111 = .ok (.if_icmp .eq 7, 3) := by decide +kernel
theorem dX5_takeSurest_114 : decode cX5_takeSurest 114 = .ok (.iconst 1, 1) := by decide +kernel
theorem dX5_takeSurest_115 : decode cX5_takeSurest 115 = .ok (.goto 4, 3) := by decide +kernel
theorem dX5_takeSurest_118 : decode cX5_takeSurest 118 = .ok (.iconst 0, 1) := by decide +kernel
theorem dX5_takeSurest_119 : decode cX5_takeSurest 119 = .ok (.ireturn, 1) := by decide +kernel
theorem dX5_isWanted_0 : decode cX5_isWanted 0 = .ok (.iload_n 3, 1) := by decide +kernel
theorem dX5_isWanted_1 : decode cX5_isWanted 1 = .ok (.iconst 1, 1) := by decide +kernel
theorem dX5_isWanted_2 : decode cX5_isWanted 2 = .ok (.if_icmp .ne 24, 3) := by decide +kernel
theorem dX5_isWanted_5 : decode cX5_isWanted 5 = .ok (.aload_n 1, 1) := by decide +kernel
theorem dX5_isWanted_6 : decode cX5_isWanted 6 = .ok (.aload_n 2, 1) := by decide +kernel
theorem dX5_isWanted_7 : decode cX5_isWanted 7 = .ok (.aload_n 0, 1) := by decide +kernel
theorem dX5_isWanted_8 : decode cX5_isWanted 8 = .ok (.getfield 9, 3) := by decide +kernel
theorem dX5_isWanted_11 : decode cX5_isWanted 11 = .ok (.invokevirtual 60, 3) := by decide +kernel
theorem dX5_isWanted_14 : decode cX5_isWanted 14 = .ok (.invokevirtual 63, 3) := by decide +kernel
theorem dX5_isWanted_17 : decode cX5_isWanted 17 = .ok (.ifCond .ne 7, 3) := by decide +kernel
theorem dX5_isWanted_20 : decode cX5_isWanted 20 = .ok (.iconst 1, 1) := by decide +kernel
theorem dX5_isWanted_21 : decode cX5_isWanted 21 = .ok (.goto 4, 3) := by decide +kernel
theorem dX5_isWanted_24 : decode cX5_isWanted 24 = .ok (.iconst 0, 1) := by decide +kernel
theorem dX5_isWanted_25 : decode cX5_isWanted 25 = .ok (.ireturn, 1) := by decide +kernel
theorem dX5_isWanted_26 : decode cX5_isWanted 26 = .ok (.iload_n 3, 1) := by decide +kernel
theorem dX5_isWanted_27 : decode cX5_isWanted 27 = .ok (.iconst 2, 1) := by decide +kernel
theorem dX5_isWanted_28 : decode cX5_isWanted 28 = .ok (.if_icmp .ne 10, 3) := by decide +kernel
theorem dX5_isWanted_31 : decode cX5_isWanted 31 = .ok (.aload_n 0, 1) := by decide +kernel
theorem dX5_isWanted_32 : decode cX5_isWanted 32 = .ok (.getfield 21, 3) := by decide +kernel
theorem dX5_isWanted_35 : decode cX5_isWanted 35 = .ok (.ifCond .ne 7, 3) := by decide +kernel
theorem dX5_isWanted_38 : decode cX5_isWanted 38 = .ok (.iconst 1, 1) := by decide +kernel
theorem dX5_isWanted_39 : decode cX5_isWanted 39 = .ok (.goto 4, 3) := by decide +kernel
theorem dX5_isWanted_42 : decode cX5_isWanted 42 = .ok (.iconst 0, 1) := by decide +kernel
theorem dX5_isWanted_43 : decode cX5_isWanted 43 = .ok (.ireturn, 1) := by decide +kernel
theorem dX5_rate_0 : decode cX5_rate 0 = .ok (.iconst 0, 1) := by decide +kernel
theorem dX5_rate_1 : decode cX5_rate 1 = .ok (.istore 4, 2) := by decide +kernel
theorem dX5_rate_3 : decode cX5_rate 3 = .ok (.iload 4, 2) := by decide +kernel
theorem dX5_rate_5 : decode cX5_rate 5 = .ok (.aload_n 2, 1) := by decide +kernel
theorem dX5_rate_6 : decode cX5_rate 6 = .ok (.getfield 49, 3) := by decide +kernel
theorem dX5_rate_9 : decode cX5_rate 9 = .ok (.if_icmp .ge 28, 3) := by decide +kernel
theorem dX5_rate_12 : decode cX5_rate 12 = .ok (.aload_n 0, 1) := by decide +kernel
theorem dX5_rate_13 : decode cX5_rate 13 = .ok (.aload_n 1, 1) := by decide +kernel
theorem dX5_rate_14 : decode cX5_rate 14 = .ok (.aload_n 2, 1) := by decide +kernel
theorem dX5_rate_15 : decode cX5_rate 15 = .ok (.iload 4, 2) := by decide +kernel
theorem dX5_rate_17 : decode cX5_rate 17 = .ok (.iload_n 3, 1) := by decide +kernel
theorem dX5_rate_18 : decode cX5_rate 18 = .ok (.invokevirtual 52, 3) := by decide +kernel
theorem dX5_rate_21 : decode cX5_rate 21 = .ok (.aload_n 2, 1) := by decide +kernel
theorem dX5_rate_22 : decode cX5_rate 22 = .ok (.iload 4, 2) := by decide +kernel
theorem dX5_rate_24 : decode cX5_rate 24 = .ok (.aload_n 0, 1) := by decide +kernel
theorem dX5_rate_25 : decode cX5_rate 25 = .ok (.getfield 15, 3) := by decide +kernel
theorem dX5_rate_28 : decode cX5_rate 28 = .ok (.invokevirtual 66, 3) := by decide +kernel
theorem dX5_rate_31 : decode cX5_rate 31 = .ok (.iinc 4 1, 3) := by decide +kernel
theorem dX5_rate_34 : decode cX5_rate 34 = .ok (.goto (-31), 3) := by decide +kernel
theorem dX5_rate_37 : decode cX5_rate 37 = .ok (.return_, 1) := by decide +kernel
theorem dX6_init_0 : decode cX6_init 0 = .ok (.aload_n 0, 1) := by decide +kernel
theorem dX6_init_1 : decode cX6_init 1 = .ok (.invokespecial 3, 3) := by decide +kernel
theorem dX6_init_4 : decode cX6_init 4 = .ok (.aload_n 0, 1) := by decide +kernel
theorem dX6_init_5 : decode cX6_init 5 = .ok (.iconst 0, 1) := by decide +kernel
theorem dX6_init_6 : decode cX6_init 6 = .ok (.putfield 9, 3) := by decide +kernel
theorem dX6_init_9 : decode cX6_init 9 = .ok (.aload_n 0, 1) := by decide +kernel
theorem dX6_init_10 : decode cX6_init 10 = .ok (.sipush 432, 3) := by decide +kernel
theorem dX6_init_13 : decode cX6_init 13 = .ok (.newarray .int, 2) := by decide +kernel
theorem dX6_init_15 : decode cX6_init 15 = .ok (.putfield 15, 3) := by decide +kernel
theorem dX6_init_18 : decode cX6_init 18 = .ok (.aload_n 0, 1) := by decide +kernel
theorem dX6_init_19 : decode cX6_init 19 = .ok (.bipush 48, 2) := by decide +kernel
theorem dX6_init_21 : decode cX6_init 21 = .ok (.newarray .int, 2) := by decide +kernel
theorem dX6_init_23 : decode cX6_init 23 = .ok (.putfield 19, 3) := by decide +kernel
theorem dX6_init_26 : decode cX6_init 26 = .ok (.aload_n 0, 1) := by decide +kernel
theorem dX6_init_27 : decode cX6_init 27 = .ok (.bipush 48, 2) := by decide +kernel
theorem dX6_init_29 : decode cX6_init 29 = .ok (.newarray .int, 2) := by decide +kernel
theorem dX6_init_31 : decode cX6_init 31 = .ok (.putfield 22, 3) := by decide +kernel
theorem dX6_init_34 : decode cX6_init 34 = .ok (.aload_n 0, 1) := by decide +kernel
theorem dX6_init_35 : decode cX6_init 35 = .ok (.bipush 9, 2) := by decide +kernel
theorem dX6_init_37 : decode cX6_init 37 = .ok (.newarray .int, 2) := by decide +kernel
theorem dX6_init_39 : decode cX6_init 39 = .ok (.putfield 25, 3) := by decide +kernel
theorem dX6_init_42 : decode cX6_init 42 = .ok (.return_, 1) := by decide +kernel
theorem dX6_find_0 : decode cX6_find 0 = .ok (.aload_n 0, 1) := by decide +kernel
theorem dX6_find_1 : decode cX6_find 1 = .ok (.iconst 0, 1) := by decide +kernel
theorem dX6_find_2 : decode cX6_find 2 = .ok (.putfield 9, 3) := by decide +kernel
theorem dX6_find_5 : decode cX6_find 5 = .ok (.aload_n 1, 1) := by decide +kernel
theorem dX6_find_6 : decode cX6_find 6 = .ok (.iload_n 2, 1) := by decide +kernel
theorem dX6_find_7 : decode cX6_find 7 = .ok (.invokevirtual 28, 3) := by decide +kernel
theorem dX6_find_10 : decode cX6_find 10 = .ok (.ifCond .eq 28, 3) := by decide +kernel
theorem dX6_find_13 : decode cX6_find 13 = .ok (.aload_n 1, 1) := by decide +kernel
theorem dX6_find_14 : decode cX6_find 14 = .ok (.iload_n 3, 1) := by decide +kernel
theorem dX6_find_15 : decode cX6_find 15 = .ok (.invokevirtual 28, 3) := by decide +kernel
theorem dX6_find_18 : decode cX6_find 18 = .ok (.ifCond .eq 20, 3) := by decide +kernel
theorem dX6_find_21 : decode cX6_find 21 = .ok (.aload_n 0, 1) := by decide +kernel
theorem dX6_find_22 : decode cX6_find 22 = .ok (.getfield 25, 3) := by decide +kernel
theorem dX6_find_25 : decode cX6_find 25 = .ok (.iconst 0, 1) := by decide +kernel
theorem dX6_find_26 : decode cX6_find 26 = .ok (.iload_n 2, 1) := by decide +kernel
theorem dX6_find_27 : decode cX6_find 27 = .ok (.iastore, 1) := by decide +kernel
theorem dX6_find_28 : decode cX6_find 28 = .ok (.aload_n 0, 1) := by decide +kernel
theorem dX6_find_29 : decode cX6_find 29 = .ok (.aload_n 1, 1) := by decide +kernel
theorem dX6_find_30 : decode cX6_find 30 = .ok (.iload_n 3, 1) := by decide +kernel
theorem dX6_find_31 : decode cX6_find 31 = .ok (.iconst 1, 1) := by decide +kernel
theorem dX6_find_32 : decode cX6_find 32 = .ok (.iconst 1, 1) := by decide +kernel
theorem dX6_find_33 : decode cX6_find 33 = .ok (.iload_n 2, 1) := by decide +kernel
theorem dX6_find_34 : decode cX6_find 34 = .ok (.ishl, 1) := by decide +kernel
theorem dX6_find_35 : decode cX6_find 35 = .ok (.invokestatic 34, 3) := by decide +kernel
theorem dX6_find_38 : decode cX6_find 38 = .ok (.return_, 1) := by decide +kernel
theorem dX6_extend_0 : decode cX6_extend 0 = .ok (.iload_n 3, 1) := by decide +kernel
theorem dX6_extend_1 : decode cX6_extend 1 = .ok (.iconst 1, 1) := by decide +kernel
theorem dX6_extend_2 : decode cX6_extend 2 = .ok (.if_icmp .lt 9, 3) := by decide +kernel
theorem dX6_extend_5 : decode cX6_extend 5 = .ok (.iload_n 3, 1) := by decide +kernel
theorem dX6_extend_6 : decode cX6_extend 6 = .ok (.bipush 9, 2) := by decide +kernel
theorem dX6_extend_8 : decode cX6_extend 8 = .ok (.if_icmp .le 4, 3) := by decide +kernel
theorem dX6_extend_11 : decode cX6_extend 11 = .ok (.return_, 1) := by decide +kernel
theorem dX6_extend_12 : decode cX6_extend 12 = .ok (.aload_n 0, 1) := by decide +kernel
theorem dX6_extend_13 : decode cX6_extend 13 = .ok (.getfield 25, 3) := by decide +kernel
theorem dX6_extend_16 : decode cX6_extend 16 = .ok (.iload_n 3, 1) := by decide +kernel
theorem dX6_extend_17 : decode cX6_extend 17 = .ok (.iconst 1, 1) := by decide +kernel
theorem dX6_extend_18 : decode cX6_extend 18 = .ok (.isub, 1) := by decide +kernel
theorem dX6_extend_19 : decode cX6_extend 19 = .ok (.iaload, 1) := by decide +kernel
theorem dX6_extend_20 : decode cX6_extend 20 = .ok (.istore 5, 2) := by decide +kernel
theorem dX6_extend_22 : decode cX6_extend 22 = .ok (.iload 5, 2) := by decide +kernel
theorem dX6_extend_24 : decode cX6_extend 24 = .ok (.iload_n 2, 1) := by decide +kernel
theorem dX6_extend_25 : decode cX6_extend 25 = .ok (.if_icmp .ne 9, 3) := by decide +kernel
theorem dX6_extend_28 : decode cX6_extend 28 = .ok (.aload_n 0, 1) := by decide +kernel
theorem dX6_extend_29 : decode cX6_extend 29 = .ok (.iload_n 3, 1) := by decide +kernel
theorem dX6_extend_30 : decode cX6_extend 30 = .ok (.invokevirtual 38, 3) := by decide +kernel
theorem dX6_extend_33 : decode cX6_extend 33 = .ok (.return_, 1) := by decide +kernel
theorem dX6_extend_34 : decode cX6_extend 34 = .ok (.iload_n 3, 1) := by decide +kernel
theorem dX6_extend_35 : decode cX6_extend 35 = .ok (.bipush 9, 2) := by decide +kernel
theorem dX6_extend_37 : decode cX6_extend 37 = .ok (.if_icmp .ne 4, 3) := by decide +kernel
theorem dX6_extend_40 : decode cX6_extend 40 = .ok (.return_, 1) := by decide +kernel
theorem dX6_extend_41 : decode cX6_extend 41 = .ok (.aload_n 1, 1) := by decide +kernel
theorem dX6_extend_42 : decode cX6_extend 42 = .ok (.iload 5, 2) := by decide +kernel
theorem dX6_extend_44 : decode cX6_extend 44 = .ok (.invokevirtual 42, 3) := by decide +kernel
theorem dX6_extend_47 : decode cX6_extend 47 = .ok (.iload 4, 2) := by decide +kernel
theorem dX6_extend_49 : decode cX6_extend 49 = .ok (.iconst (-1), 1) := by decide +kernel
theorem dX6_extend_50 : decode cX6_extend 50 = .ok (.ixor, 1) := by decide +kernel
theorem dX6_extend_51 : decode cX6_extend 51 = .ok (.iand, 1) := by decide +kernel
theorem dX6_extend_52 : decode cX6_extend 52 = .ok (.istore 6, 2) := by decide +kernel
theorem dX6_extend_54 : decode cX6_extend 54 = .ok (.iconst 0, 1) := by decide +kernel
theorem dX6_extend_55 : decode cX6_extend 55 = .ok (.istore 7, 2) := by decide +kernel
theorem dX6_extend_57 : decode cX6_extend 57 = .ok (.iload 7, 2) := by decide +kernel
theorem dX6_extend_59 : decode cX6_extend 59 = .ok (.aload_n 1, 1) := by decide +kernel
theorem dX6_extend_60 : decode cX6_extend 60 = .ok (.getfield 46, 3) := by decide +kernel
theorem dX6_extend_63 : decode cX6_extend 63 = .ok (.if_icmp .ge 43, 3) := by decide +kernel
theorem dX6_extend_66 : decode cX6_extend 66 = .ok (.iload 6, 2) := by decide +kernel
theorem dX6_extend_68 : decode cX6_extend 68 = .ok (.iload 7, 2) := by decide +kernel
theorem dX6_extend_70 : decode cX6_extend 70 = .ok (.ishr, 1) := by decide +kernel
theorem dX6_extend_71 : decode cX6_extend 71 = .ok (.iconst 1, 1) := by decide +kernel
theorem dX6_extend_72 : decode cX6_extend 72 = .ok (.iand, 1) := by decide +kernel
theorem dX6_extend_73 : decode cX6_extend 73 = .ok (.ifCond .eq 27, 3) := by decide +kernel
theorem dX6_extend_76 : decode cX6_extend 76 = .ok (.aload_n 0, 1) := by decide +kernel
theorem dX6_extend_77 : decode cX6_extend 77 = .ok (.getfield 25, 3) := by decide +kernel
theorem dX6_extend_80 : decode cX6_extend 80 = .ok (.iload_n 3, 1) := by decide +kernel
theorem dX6_extend_81 : decode cX6_extend 81 = .ok (.iload 7, 2) := by decide +kernel
theorem dX6_extend_83 : decode cX6_extend 83 = .ok (.iastore, 1) := by decide +kernel
theorem dX6_extend_84 : decode cX6_extend 84 = .ok (.aload_n 0, 1) := by decide +kernel
theorem dX6_extend_85 : decode cX6_extend 85 = .ok (.aload_n 1, 1) := by decide +kernel
theorem dX6_extend_86 : decode cX6_extend 86 = .ok (.iload_n 2, 1) := by decide +kernel
theorem dX6_extend_87 : decode cX6_extend 87 = .ok (.iload_n 3, 1) := by decide +kernel
theorem dX6_extend_88 : decode cX6_extend 88 = .ok (.iconst 1, 1) := by decide +kernel
theorem dX6_extend_89 : decode cX6_extend 89 = .ok (.iadd, 1) := by decide +kernel
theorem dX6_extend_90 : decode cX6_extend 90 = .ok (.iload 4, 2) := by decide +kernel
theorem dX6_extend_92 : decode cX6_extend 92 = .ok (.iconst 1, 1) := by decide +kernel
theorem dX6_extend_93 : decode cX6_extend 93 = .ok (.iload 7, 2) := by decide +kernel
theorem dX6_extend_95 : decode cX6_extend 95 = .ok (.ishl, 1) := by decide +kernel
theorem dX6_extend_96 : decode cX6_extend 96 = .ok (.ior, 1) := by decide +kernel
theorem dX6_extend_97 : decode cX6_extend 97 = .ok (.invokestatic 34, 3) := by decide +kernel
theorem dX6_extend_100 : decode cX6_extend 100 = .ok (.iinc 7 1, 3) := by decide +kernel
theorem dX6_extend_103 : decode cX6_extend 103 = .ok (.goto (-46), 3) := by decide +kernel
theorem dX6_extend_106 : decode cX6_extend 106 = .ok (.return_, 1) := by decide +kernel
theorem dX6_takeTold_0 : decode cX6_takeTold 0 = .ok (.aload_n 0, 1) := by decide +kernel
theorem dX6_takeTold_1 : decode cX6_takeTold 1 = .ok (.iconst 0, 1) := by decide +kernel
theorem dX6_takeTold_2 : decode cX6_takeTold 2 = .ok (.putfield 9, 3) := by decide +kernel
theorem dX6_takeTold_5 : decode cX6_takeTold 5 = .ok (.iconst 0, 1) := by decide +kernel
theorem dX6_takeTold_6 : decode cX6_takeTold 6 = .ok (.istore_n 3, 1) := by decide +kernel
theorem dX6_takeTold_7 : decode cX6_takeTold 7 = .ok (.iload_n 3, 1) := by decide +kernel
theorem dX6_takeTold_8 : decode cX6_takeTold 8 = .ok (.iload_n 2, 1) := by decide +kernel
theorem dX6_takeTold_9 : decode cX6_takeTold 9 = .ok (.if_icmp .ge 27, 3) := by decide +kernel
theorem dX6_takeTold_12 : decode cX6_takeTold 12 = .ok (.iload_n 3, 1) := by decide +kernel
theorem dX6_takeTold_13 : decode cX6_takeTold 13 = .ok (.bipush 9, 2) := by decide +kernel
theorem dX6_takeTold_15 : decode cX6_takeTold 15 = .ok (.if_icmp .ge 21, 3) := by decide +kernel
theorem dX6_takeTold_18 : decode cX6_takeTold 18 = .ok (.aload_n 0, 1) := by decide +kernel
theorem dX6_takeTold_19 : decode cX6_takeTold 19 = .ok (.getfield 25, 3) := by decide +kernel
theorem dX6_takeTold_22 : decode cX6_takeTold 22 = .ok (.iload_n 3, 1) := by decide +kernel
theorem dX6_takeTold_23 : decode cX6_takeTold 23 = .ok (.aload_n 1, 1) := by decide +kernel
theorem dX6_takeTold_24 : decode cX6_takeTold 24 = .ok (.iload_n 3, 1) := by decide +kernel
theorem dX6_takeTold_25 : decode cX6_takeTold 25 = .ok (.invokevirtual 47, 3) := by decide +kernel
theorem dX6_takeTold_28 : decode cX6_takeTold 28 = .ok (.l2i, 1) := by decide +kernel
theorem dX6_takeTold_29 : decode cX6_takeTold 29 = .ok (.iastore, 1) := by decide +kernel
theorem dX6_takeTold_30 : decode cX6_takeTold 30 = .ok (.iinc 3 1, 3) := by decide +kernel
theorem dX6_takeTold_33 : decode cX6_takeTold 33 = .ok (.goto (-26), 3) := by decide +kernel
theorem dX6_takeTold_36 : decode cX6_takeTold 36 = .ok (.aload_n 0, 1) := by decide +kernel
theorem dX6_takeTold_37 : decode cX6_takeTold 37 = .ok (.iload_n 2, 1) := by decide +kernel
theorem dX6_takeTold_38 : decode cX6_takeTold 38 = .ok (.invokevirtual 38, 3) := by decide +kernel
theorem dX6_takeTold_41 : decode cX6_takeTold 41 = .ok (.return_, 1) := by decide +kernel
theorem dX6_keep_0 : decode cX6_keep 0 = .ok (.aload_n 0, 1) := by decide +kernel
theorem dX6_keep_1 : decode cX6_keep 1 = .ok (.getfield 9, 3) := by decide +kernel
theorem dX6_keep_4 : decode cX6_keep 4 = .ok (.ifCond .lt 63, 3) := by decide +kernel
theorem dX6_keep_7 : decode cX6_keep 7 = .ok (.aload_n 0, 1) := by decide +kernel
theorem dX6_keep_8 : decode cX6_keep 8 = .ok (.getfield 9, 3) := by decide +kernel
theorem dX6_keep_11 : decode cX6_keep 11 = .ok (.bipush 48, 2) := by decide +kernel
theorem dX6_keep_13 : decode cX6_keep 13 = .ok (.if_icmp .ge 54, 3) := by decide +kernel
theorem dX6_keep_16 : decode cX6_keep 16 = .ok (.iload_n 1, 1) := by decide +kernel
theorem dX6_keep_17 : decode cX6_keep 17 = .ok (.iconst 1, 1) := by decide +kernel
theorem dX6_keep_18 : decode cX6_keep 18 = .ok (.if_icmp .lt 49, 3) := by decide +kernel
theorem dX6_keep_21 : decode cX6_keep 21 = .ok (.iload_n 1, 1) := by decide +kernel
theorem dX6_keep_22 : decode cX6_keep 22 = .ok (.bipush 9, 2) := by decide +kernel
theorem dX6_keep_24 : decode cX6_keep 24 = .ok (.if_icmp .gt 43, 3) := by decide +kernel
theorem dX6_keep_27 : decode cX6_keep 27 = .ok (.aload_n 0, 1) := by decide +kernel
theorem dX6_keep_28 : decode cX6_keep 28 = .ok (.getfield 25, 3) := by decide +kernel
theorem dX6_keep_31 : decode cX6_keep 31 = .ok (.iconst 0, 1) := by decide +kernel
theorem dX6_keep_32 : decode cX6_keep 32 = .ok (.aload_n 0, 1) := by decide +kernel
theorem dX6_keep_33 : decode cX6_keep 33 = .ok (.getfield 15, 3) := by decide +kernel
theorem dX6_keep_36 : decode cX6_keep 36 = .ok (.aload_n 0, 1) := by decide +kernel
theorem dX6_keep_37 : decode cX6_keep 37 = .ok (.getfield 9, 3) := by decide +kernel
theorem dX6_keep_40 : decode cX6_keep 40 = .ok (.bipush 9, 2) := by decide +kernel
theorem dX6_keep_42 : decode cX6_keep 42 = .ok (.imul, 1) := by decide +kernel
theorem dX6_keep_43 : decode cX6_keep 43 = .ok (.iload_n 1, 1) := by decide +kernel
theorem dX6_keep_44 : decode cX6_keep 44 = .ok (.invokestatic 53, 3) := by decide +kernel
theorem dX6_keep_47 : decode cX6_keep 47 = .ok (.aload_n 0, 1) := by decide +kernel
theorem dX6_keep_48 : decode cX6_keep 48 = .ok (.getfield 19, 3) := by decide +kernel
theorem dX6_keep_51 : decode cX6_keep 51 = .ok (.aload_n 0, 1) := by decide +kernel
theorem dX6_keep_52 : decode cX6_keep 52 = .ok (.getfield 9, 3) := by decide +kernel
theorem dX6_keep_55 : decode cX6_keep 55 = .ok (.iload_n 1, 1) := by decide +kernel
theorem dX6_keep_56 : decode cX6_keep 56 = .ok (.iastore, 1) := by decide +kernel
theorem dX6_keep_57 : decode cX6_keep 57 = .ok (.aload_n 0, 1) := by decide +kernel
theorem dX6_keep_58 : decode cX6_keep 58 = .ok (.dup, 1) := by decide +kernel
theorem dX6_keep_59 : decode cX6_keep 59 = .ok (.getfield 9, 3) := by decide +kernel
theorem dX6_keep_62 : decode cX6_keep 62 = .ok (.iconst 1, 1) := by decide +kernel
theorem dX6_keep_63 : decode cX6_keep 63 = .ok (.iadd, 1) := by decide +kernel
theorem dX6_keep_64 : decode cX6_keep 64 = .ok (.putfield 9, 3) := by decide +kernel
theorem dX6_keep_67 : decode cX6_keep 67 = .ok (.return_, 1) := by decide +kernel
theorem dX6_has_0 : decode cX6_has 0 = .ok (.iload_n 1, 1) := by decide +kernel
theorem dX6_has_1 : decode cX6_has 1 = .ok (.ifCond .lt 21, 3) := by decide +kernel
theorem dX6_has_4 : decode cX6_has 4 = .ok (.iload_n 1, 1) := by decide +kernel
theorem dX6_has_5 : decode cX6_has 5 = .ok (.aload_n 0, 1) := by decide +kernel
theorem dX6_has_6 : decode cX6_has 6 = .ok (.getfield 9, 3) := by decide +kernel
theorem dX6_has_9 : decode cX6_has 9 = .ok (.if_icmp .ge 13, 3) := by decide +kernel
theorem dX6_has_12 : decode cX6_has 12 = .ok (.iload_n 1, 1) := by decide +kernel
theorem dX6_has_13 : decode cX6_has 13 = .ok (.bipush 48, 2) := by decide +kernel
theorem dX6_has_15 : decode cX6_has 15 = .ok (.if_icmp .ge 7, 3) := by decide +kernel
theorem dX6_has_18 : decode cX6_has 18 = .ok (.iconst 1, 1) := by decide +kernel
theorem dX6_has_19 : decode cX6_has 19 = .ok (.goto 4, 3) := by decide +kernel
theorem dX6_has_22 : decode cX6_has 22 = .ok (.iconst 0, 1) := by decide +kernel
theorem dX6_has_23 : decode cX6_has 23 = .ok (.ireturn, 1) := by decide +kernel
theorem dX6_sizeOf_0 : decode cX6_sizeOf 0 = .ok (.aload_n 0, 1) := by decide +kernel
theorem dX6_sizeOf_1 : decode cX6_sizeOf 1 = .ok (.iload_n 1, 1) := by decide +kernel
theorem dX6_sizeOf_2 : decode cX6_sizeOf 2 = .ok (.invokevirtual 59, 3) := by decide +kernel
theorem dX6_sizeOf_5 : decode cX6_sizeOf 5 = .ok (.ifCond .eq 12, 3) := by decide +kernel
theorem dX6_sizeOf_8 : decode cX6_sizeOf 8 = .ok (.aload_n 0, 1) := by decide +kernel
theorem dX6_sizeOf_9 : decode cX6_sizeOf 9 = .ok (.getfield 19, 3) := by decide +kernel
theorem dX6_sizeOf_12 : decode cX6_sizeOf 12 = .ok (.iload_n 1, 1) := by decide +kernel
theorem dX6_sizeOf_13 : decode cX6_sizeOf 13 = .ok (.iaload, 1) := by decide +kernel
theorem dX6_sizeOf_14 : decode cX6_sizeOf 14 = .ok (.goto 4, 3) := by decide +kernel
theorem dX6_sizeOf_17 : decode cX6_sizeOf 17 = .ok (.iconst 0, 1) := by decide +kernel
theorem dX6_sizeOf_18 : decode cX6_sizeOf 18 = .ok (.ireturn, 1) := by decide +kernel
theorem dX6_pupilOn_0 : decode cX6_pupilOn 0 = .ok (.iload_n 2, 1) := by decide +kernel
theorem dX6_pupilOn_1 : decode cX6_pupilOn 1 = .ok (.ifCond .lt 26, 3) := by decide +kernel
theorem dX6_pupilOn_4 : decode cX6_pupilOn 4 = .ok (.iload_n 2, 1) := by decide +kernel
theorem dX6_pupilOn_5 : decode cX6_pupilOn 5 = .ok (.aload_n 0, 1) := by decide +kernel
theorem dX6_pupilOn_6 : decode cX6_pupilOn 6 = .ok (.iload_n 1, 1) := by decide +kernel
theorem dX6_pupilOn_7 : decode cX6_pupilOn 7 = .ok (.invokevirtual 60, 3) := by decide +kernel
theorem dX6_pupilOn_10 : decode cX6_pupilOn 10 = .ok (.if_icmp .ge 17, 3) := by decide +kernel
theorem dX6_pupilOn_13 : decode cX6_pupilOn 13 = .ok (.aload_n 0, 1) := by decide +kernel
theorem dX6_pupilOn_14 : decode cX6_pupilOn 14 = .ok (.getfield 15, 3) := by decide +kernel
theorem dX6_pupilOn_17 : decode cX6_pupilOn 17 = .ok (.iload_n 1, 1) := by decide +kernel
theorem dX6_pupilOn_18 : decode cX6_pupilOn 18 = .ok (.bipush 9, 2) := by decide +kernel
theorem dX6_pupilOn_20 : decode cX6_pupilOn 20 = .ok (.imul, 1) := by decide +kernel
theorem dX6_pupilOn_21 : decode cX6_pupilOn 21 = .ok (.iload_n 2, 1) := by decide +kernel
theorem dX6_pupilOn_22 : decode cX6_pupilOn 22 = .ok (.iadd, 1) := by decide +kernel
theorem dX6_pupilOn_23 : decode cX6_pupilOn 23 = .ok (.iaload, 1) := by decide +kernel
theorem dX6_pupilOn_24 : decode cX6_pupilOn 24 = .ok (.goto 4, 3) := by decide +kernel
theorem dX6_pupilOn_27 : decode cX6_pupilOn 27 = .ok (.iconst (-1), 1) := by decide +kernel
theorem dX6_pupilOn_28 : decode cX6_pupilOn 28 = .ok (.ireturn, 1) := by decide +kernel
theorem dX6_allOf_0 : decode cX6_allOf 0 = .ok (.iconst 0, 1) := by decide +kernel
theorem dX6_allOf_1 : decode cX6_allOf 1 = .ok (.istore_n 2, 1) := by decide +kernel
theorem dX6_allOf_2 : decode cX6_allOf 2 = .ok (.iconst 0, 1) := by decide +kernel
theorem dX6_allOf_3 : decode cX6_allOf 3 = .ok (.istore_n 3, 1) := by decide +kernel
theorem dX6_allOf_4 : decode cX6_allOf 4 = .ok (.iload_n 3, 1) := by decide +kernel
theorem dX6_allOf_5 : decode cX6_allOf 5 = .ok (.aload_n 0, 1) := by decide +kernel
theorem dX6_allOf_6 : decode cX6_allOf 6 = .ok (.iload_n 1, 1) := by decide +kernel
theorem dX6_allOf_7 : decode cX6_allOf 7 = .ok (.invokevirtual 60, 3) := by decide +kernel
theorem dX6_allOf_10 : decode cX6_allOf 10 = .ok (.if_icmp .ge 20, 3) := by decide +kernel
theorem dX6_allOf_13 : decode cX6_allOf 13 = .ok (.iload_n 2, 1) := by decide +kernel
theorem dX6_allOf_14 : decode cX6_allOf 14 = .ok (.iconst 1, 1) := by decide +kernel
theorem dX6_allOf_15 : decode cX6_allOf 15 = .ok (.aload_n 0, 1) := by decide +kernel
theorem dX6_allOf_16 : decode cX6_allOf 16 = .ok (.iload_n 1, 1) := by decide +kernel
theorem dX6_allOf_17 : decode cX6_allOf 17 = .ok (.iload_n 3, 1) := by decide +kernel
theorem dX6_allOf_18 : decode cX6_allOf 18 = .ok (.invokevirtual 63, 3) := by decide +kernel
theorem dX6_allOf_21 : decode cX6_allOf 21 = .ok (.ishl, 1) := by decide +kernel
theorem dX6_allOf_22 : decode cX6_allOf 22 = .ok (.ior, 1) := by decide +kernel
theorem dX6_allOf_23 : decode cX6_allOf 23 = .ok (.istore_n 2, 1) := by decide +kernel
theorem dX6_allOf_24 : decode cX6_allOf 24 = .ok (.iinc 3 1, 3) := by decide +kernel
theorem dX6_allOf_27 : decode cX6_allOf 27 = .ok (.goto (-23), 3) := by decide +kernel
theorem dX6_allOf_30 : decode cX6_allOf 30 = .ok (.iload_n 2, 1) := by decide +kernel
theorem dX6_allOf_31 : decode cX6_allOf 31 = .ok (.ireturn, 1) := by decide +kernel
theorem dX6_betweenOf_0 : decode cX6_betweenOf 0 = .ok (.iconst 0, 1) := by decide +kernel
theorem dX6_betweenOf_1 : decode cX6_betweenOf 1 = .ok (.istore_n 2, 1) := by decide +kernel
theorem dX6_betweenOf_2 : decode cX6_betweenOf 2 = .ok (.iconst 1, 1) := by decide +kernel
theorem dX6_betweenOf_3 : decode cX6_betweenOf 3 = .ok (.istore_n 3, 1) := by decide +kernel
theorem dX6_betweenOf_4 : decode cX6_betweenOf 4 = .ok (.iload_n 3, 1) := by decide +kernel
theorem dX6_betweenOf_5 : decode cX6_betweenOf 5 = .ok (.aload_n 0, 1) := by decide +kernel
theorem dX6_betweenOf_6 : decode cX6_betweenOf 6 = .ok (.iload_n 1, 1) := by decide +kernel
theorem dX6_betweenOf_7 : decode cX6_betweenOf 7 = .ok (.invokevirtual 60, 3) := by decide +kernel
theorem dX6_betweenOf_10 : decode cX6_betweenOf 10 = .ok (.iconst 1, 1) := by decide +kernel
theorem dX6_betweenOf_11 : decode cX6_betweenOf 11 = .ok (.isub, 1) := by decide +kernel
theorem dX6_betweenOf_12 : decode cX6_betweenOf 12 = .ok (.if_icmp .ge 20, 3) := by decide +kernel
theorem dX6_betweenOf_15 : decode cX6_betweenOf 15 = .ok (.iload_n 2, 1) := by decide +kernel
theorem dX6_betweenOf_16 : decode cX6_betweenOf 16 = .ok (.iconst 1, 1) := by decide +kernel
theorem dX6_betweenOf_17 : decode cX6_betweenOf 17 = .ok (.aload_n 0, 1) := by decide +kernel
theorem dX6_betweenOf_18 : decode cX6_betweenOf 18 = .ok (.iload_n 1, 1) := by decide +kernel
theorem dX6_betweenOf_19 : decode cX6_betweenOf 19 = .ok (.iload_n 3, 1) := by decide +kernel
theorem dX6_betweenOf_20 : decode cX6_betweenOf 20 = .ok (.invokevirtual 63, 3) := by decide +kernel
theorem dX6_betweenOf_23 : decode cX6_betweenOf 23 = .ok (.ishl, 1) := by decide +kernel
theorem dX6_betweenOf_24 : decode cX6_betweenOf 24 = .ok (.ior, 1) := by decide +kernel
theorem dX6_betweenOf_25 : decode cX6_betweenOf 25 = .ok (.istore_n 2, 1) := by decide +kernel
theorem dX6_betweenOf_26 : decode cX6_betweenOf 26 = .ok (.iinc 3 1, 3) := by decide +kernel
theorem dX6_betweenOf_29 : decode cX6_betweenOf 29 = .ok (.goto (-25), 3) := by decide +kernel
theorem dX6_betweenOf_32 : decode cX6_betweenOf 32 = .ok (.iload_n 2, 1) := by decide +kernel
theorem dX6_betweenOf_33 : decode cX6_betweenOf 33 = .ok (.ireturn, 1) := by decide +kernel
theorem dX6_setChance_0 : decode cX6_setChance 0 = .ok (.aload_n 0, 1) := by decide +kernel
theorem dX6_setChance_1 : decode cX6_setChance 1 = .ok (.iload_n 1, 1) := by decide +kernel
theorem dX6_setChance_2 : decode cX6_setChance 2 = .ok (.invokevirtual 59, 3) := by decide +kernel
theorem dX6_setChance_5 : decode cX6_setChance 5 = .ok (.ifCond .eq 10, 3) := by decide +kernel
theorem dX6_setChance_8 : decode cX6_setChance 8 = .ok (.aload_n 0, 1) := by decide +kernel
theorem dX6_setChance_9 : decode cX6_setChance 9 = .ok (.getfield 22, 3) := by decide +kernel
theorem dX6_setChance_12 : decode cX6_setChance 12 = .ok (.iload_n 1, 1) := by decide +kernel
theorem dX6_setChance_13 : decode cX6_setChance 13 = .ok (.iload_n 2, 1) := by decide +kernel
theorem dX6_setChance_14 : decode cX6_setChance 14 = .ok (.iastore, 1) := by decide +kernel
theorem dX6_setChance_15 : decode cX6_setChance 15 = .ok (.return_, 1) := by decide +kernel
theorem dX6_chanceOf_0 : decode cX6_chanceOf 0 = .ok (.aload_n 0, 1) := by decide +kernel
theorem dX6_chanceOf_1 : decode cX6_chanceOf 1 = .ok (.iload_n 1, 1) := by decide +kernel
theorem dX6_chanceOf_2 : decode cX6_chanceOf 2 = .ok (.invokevirtual 59, 3) := by decide +kernel
theorem dX6_chanceOf_5 : decode cX6_chanceOf 5 = .ok (.ifCond .eq 12, 3) := by decide +kernel
theorem dX6_chanceOf_8 : decode cX6_chanceOf 8 = .ok (.aload_n 0, 1) := by decide +kernel
theorem dX6_chanceOf_9 : decode cX6_chanceOf 9 = .ok (.getfield 22, 3) := by decide +kernel
theorem dX6_chanceOf_12 : decode cX6_chanceOf 12 = .ok (.iload_n 1, 1) := by decide +kernel
theorem dX6_chanceOf_13 : decode cX6_chanceOf 13 = .ok (.iaload, 1) := by decide +kernel
theorem dX6_chanceOf_14 : decode cX6_chanceOf 14 = .ok (.goto 4, 3) := by decide +kernel
theorem dX6_chanceOf_17 : decode cX6_chanceOf 17 = .ok (.iconst 0, 1) := by decide +kernel
theorem dX6_chanceOf_18 : decode cX6_chanceOf 18 = .ok (.ireturn, 1) := by decide +kernel
theorem dJ6_bitCount_0f7a4_0 : decode cJ6_bitCount_0f7a4 0 = .ok (.iload_n 0, 1) := by decide +kernel
theorem dJ6_bitCount_0f7a4_1 : decode cJ6_bitCount_0f7a4 1 = .ok (.iload_n 0, 1) := by decide +kernel
theorem dJ6_bitCount_0f7a4_2 : decode cJ6_bitCount_0f7a4 2 = .ok (.iconst 1, 1) := by decide +kernel
theorem dJ6_bitCount_0f7a4_3 : decode cJ6_bitCount_0f7a4 3 = .ok (.iushr, 1) := by decide +kernel
theorem dJ6_bitCount_0f7a4_4 : decode cJ6_bitCount_0f7a4 4 = .ok (.ldc_w 265, 3) := by decide +kernel
theorem dJ6_bitCount_0f7a4_7 : decode cJ6_bitCount_0f7a4 7 = .ok (.iand, 1) := by decide +kernel
theorem dJ6_bitCount_0f7a4_8 : decode cJ6_bitCount_0f7a4 8 = .ok (.isub, 1) := by decide +kernel
theorem dJ6_bitCount_0f7a4_9 : decode cJ6_bitCount_0f7a4 9 = .ok (.istore_n 0, 1) := by decide +kernel
theorem dJ6_bitCount_0f7a4_10 : decode cJ6_bitCount_0f7a4 10 = .ok (.iload_n 0, 1) := by decide +kernel
theorem dJ6_bitCount_0f7a4_11 : decode cJ6_bitCount_0f7a4 11 = .ok (.ldc_w 266, 3) := by decide +kernel
theorem dJ6_bitCount_0f7a4_14 : decode cJ6_bitCount_0f7a4 14 = .ok (.iand, 1) := by decide +kernel
theorem dJ6_bitCount_0f7a4_15 : decode cJ6_bitCount_0f7a4 15 = .ok (.iload_n 0, 1) := by decide +kernel
theorem dJ6_bitCount_0f7a4_16 : decode cJ6_bitCount_0f7a4 16 = .ok (.iconst 2, 1) := by decide +kernel
theorem dJ6_bitCount_0f7a4_17 : decode cJ6_bitCount_0f7a4 17 = .ok (.iushr, 1) := by decide +kernel
theorem dJ6_bitCount_0f7a4_18 : decode cJ6_bitCount_0f7a4 18 = .ok (.ldc_w 266, 3) := by decide +kernel
theorem dJ6_bitCount_0f7a4_21 : decode cJ6_bitCount_0f7a4 21 = .ok (.iand, 1) := by decide +kernel
theorem dJ6_bitCount_0f7a4_22 : decode cJ6_bitCount_0f7a4 22 = .ok (.iadd, 1) := by decide +kernel
theorem dJ6_bitCount_0f7a4_23 : decode cJ6_bitCount_0f7a4 23 = .ok (.istore_n 0, 1) := by decide +kernel
theorem dJ6_bitCount_0f7a4_24 : decode cJ6_bitCount_0f7a4 24 = .ok (.iload_n 0, 1) := by decide +kernel
theorem dJ6_bitCount_0f7a4_25 : decode cJ6_bitCount_0f7a4 25 = .ok (.iload_n 0, 1) := by decide +kernel
theorem dJ6_bitCount_0f7a4_26 : decode cJ6_bitCount_0f7a4 26 = .ok (.iconst 4, 1) := by decide +kernel
theorem dJ6_bitCount_0f7a4_27 : decode cJ6_bitCount_0f7a4 27 = .ok (.iushr, 1) := by decide +kernel
theorem dJ6_bitCount_0f7a4_28 : decode cJ6_bitCount_0f7a4 28 = .ok (.iadd, 1) := by decide +kernel
theorem dJ6_bitCount_0f7a4_29 : decode cJ6_bitCount_0f7a4 29 = .ok (.ldc_w 267, 3) := by decide +kernel
theorem dJ6_bitCount_0f7a4_32 : decode cJ6_bitCount_0f7a4 32 = .ok (.iand, 1) := by decide +kernel
theorem dJ6_bitCount_0f7a4_33 : decode cJ6_bitCount_0f7a4 33 = .ok (.istore_n 0, 1) := by decide +kernel
theorem dJ6_bitCount_0f7a4_34 : decode cJ6_bitCount_0f7a4 34 = .ok (.iload_n 0, 1) := by decide +kernel
theorem dJ6_bitCount_0f7a4_35 : decode cJ6_bitCount_0f7a4 35 = .ok (.iload_n 0, 1) := by decide +kernel
theorem dJ6_bitCount_0f7a4_36 : decode cJ6_bitCount_0f7a4 36 = .ok (.bipush 8, 2) := by decide +kernel
theorem dJ6_bitCount_0f7a4_38 : decode cJ6_bitCount_0f7a4 38 = .ok (.iushr, 1) := by decide +kernel
theorem dJ6_bitCount_0f7a4_39 : decode cJ6_bitCount_0f7a4 39 = .ok (.iadd, 1) := by decide +kernel
theorem dJ6_bitCount_0f7a4_40 : decode cJ6_bitCount_0f7a4 40 = .ok (.istore_n 0, 1) := by decide +kernel
theorem dJ6_bitCount_0f7a4_41 : decode cJ6_bitCount_0f7a4 41 = .ok (.iload_n 0, 1) := by decide +kernel
theorem dJ6_bitCount_0f7a4_42 : decode cJ6_bitCount_0f7a4 42 = .ok (.iload_n 0, 1) := by decide +kernel
theorem dJ6_bitCount_0f7a4_43 : decode cJ6_bitCount_0f7a4 43 = .ok (.bipush 16, 2) := by decide +kernel
theorem dJ6_bitCount_0f7a4_45 : decode cJ6_bitCount_0f7a4 45 = .ok (.iushr, 1) := by decide +kernel
theorem dJ6_bitCount_0f7a4_46 : decode cJ6_bitCount_0f7a4 46 = .ok (.iadd, 1) := by decide +kernel
theorem dJ6_bitCount_0f7a4_47 : decode cJ6_bitCount_0f7a4 47 = .ok (.istore_n 0, 1) := by decide +kernel
theorem dJ6_bitCount_0f7a4_48 : decode cJ6_bitCount_0f7a4 48 = .ok (.iload_n 0, 1) := by decide +kernel
theorem dJ6_bitCount_0f7a4_49 : decode cJ6_bitCount_0f7a4 49 = .ok (.bipush 63, 2) := by decide +kernel
theorem dJ6_bitCount_0f7a4_51 : decode cJ6_bitCount_0f7a4 51 = .ok (.iand, 1) := by decide +kernel
theorem dJ6_bitCount_0f7a4_52 : decode cJ6_bitCount_0f7a4 52 = .ok (.ireturn, 1) := by decide +kernel
theorem dJ9_abs_0f7a4_0 : decode cJ9_abs_0f7a4 0 = .ok (.iload_n 0, 1) := by decide +kernel
theorem dJ9_abs_0f7a4_1 : decode cJ9_abs_0f7a4 1 = .ok (.ifCond .ge 8, 3) := by decide +kernel
theorem dJ9_abs_0f7a4_4 : decode cJ9_abs_0f7a4 4 = .ok (.iload_n 0, 1) := by decide +kernel
theorem dJ9_abs_0f7a4_5 : decode cJ9_abs_0f7a4 5 = .ok (.ineg, 1) := by decide +kernel
theorem dJ9_abs_0f7a4_6 : decode cJ9_abs_0f7a4 6 = .ok (.goto 4, 3) := by decide +kernel
theorem dJ9_abs_0f7a4_9 : decode cJ9_abs_0f7a4 9 = .ok (.iload_n 0, 1) := by decide +kernel
theorem dJ9_abs_0f7a4_10 : decode cJ9_abs_0f7a4 10 = .ok (.ireturn, 1) := by decide +kernel
theorem dJ9_max_7cf53_0 : decode cJ9_max_7cf53 0 = .ok (.iload_n 0, 1) := by decide +kernel
theorem dJ9_max_7cf53_1 : decode cJ9_max_7cf53 1 = .ok (.iload_n 1, 1) := by decide +kernel
theorem dJ9_max_7cf53_2 : decode cJ9_max_7cf53 2 = .ok (.if_icmp .lt 7, 3) := by decide +kernel
theorem dJ9_max_7cf53_5 : decode cJ9_max_7cf53 5 = .ok (.iload_n 0, 1) := by decide +kernel
theorem dJ9_max_7cf53_6 : decode cJ9_max_7cf53 6 = .ok (.goto 4, 3) := by decide +kernel
theorem dJ9_max_7cf53_9 : decode cJ9_max_7cf53 9 = .ok (.iload_n 1, 1) := by decide +kernel
theorem dJ9_max_7cf53_10 : decode cJ9_max_7cf53 10 = .ok (.ireturn, 1) := by decide +kernel
theorem dJ9_min_7cf53_0 : decode cJ9_min_7cf53 0 = .ok (.iload_n 0, 1) := by decide +kernel
theorem dJ9_min_7cf53_1 : decode cJ9_min_7cf53 1 = .ok (.iload_n 1, 1) := by decide +kernel
theorem dJ9_min_7cf53_2 : decode cJ9_min_7cf53 2 = .ok (.if_icmp .gt 7, 3) := by decide +kernel
theorem dJ9_min_7cf53_5 : decode cJ9_min_7cf53 5 = .ok (.iload_n 0, 1) := by decide +kernel
theorem dJ9_min_7cf53_6 : decode cJ9_min_7cf53 6 = .ok (.goto 4, 3) := by decide +kernel
theorem dJ9_min_7cf53_9 : decode cJ9_min_7cf53 9 = .ok (.iload_n 1, 1) := by decide +kernel
theorem dJ9_min_7cf53_10 : decode cJ9_min_7cf53 10 = .ok (.ireturn, 1) := by decide +kernel
theorem dJ0_length_8abf5_0 : decode cJ0_length_8abf5 0 = .ok (.aload_n 0, 1) := by decide +kernel
theorem dJ0_length_8abf5_1 : decode cJ0_length_8abf5 1 = .ok (.getfield 9, 3) := by decide +kernel
theorem dJ0_length_8abf5_4 : decode cJ0_length_8abf5 4 = .ok (.arraylength, 1) := by decide +kernel
theorem dJ0_length_8abf5_5 : decode cJ0_length_8abf5 5 = .ok (.aload_n 0, 1) := by decide +kernel
theorem dJ0_length_8abf5_6 : decode cJ0_length_8abf5 6 = .ok (.invokevirtual 335, 3) := by decide +kernel
theorem dJ0_length_8abf5_9 : decode cJ0_length_8abf5 9 = .ok (.ishr, 1) := by decide +kernel
theorem dJ0_length_8abf5_10 : decode cJ0_length_8abf5 10 = .ok (.ireturn, 1) := by decide +kernel
theorem dJ0_charAt_5068e_0 : decode cJ0_charAt_5068e 0 = .ok (.aload_n 0, 1) := by decide +kernel
theorem dJ0_charAt_5068e_1 : decode cJ0_charAt_5068e 1 = .ok (.invokevirtual 492, 3) := by decide +kernel
theorem dJ0_charAt_5068e_4 : decode cJ0_charAt_5068e 4 = .ok (.ifCond .eq 12, 3) := by decide +kernel
theorem dJ0_charAt_5068e_7 : decode cJ0_charAt_5068e 7 = .ok (.aload_n 0, 1) := by decide +kernel
theorem dJ0_charAt_5068e_8 : decode cJ0_charAt_5068e 8 = .ok (.getfield 9, 3) := by decide +kernel
theorem dJ0_charAt_5068e_11 : decode cJ0_charAt_5068e 11 = .ok (.iload_n 1, 1) := by decide +kernel
theorem dJ0_charAt_5068e_12 : decode cJ0_charAt_5068e 12 = .ok (.invokestatic 495, 3) := by decide +kernel
theorem dJ0_charAt_5068e_15 : decode cJ0_charAt_5068e 15 = .ok (.ireturn, 1) := by decide +kernel
theorem dJ0_charAt_5068e_16 : decode cJ0_charAt_5068e 16 = .ok (.aload_n 0, 1) := by decide +kernel
theorem dJ0_charAt_5068e_17 : decode cJ0_charAt_5068e 17 = .ok (.getfield 9, 3) := by decide +kernel
theorem dJ0_charAt_5068e_20 : decode cJ0_charAt_5068e 20 = .ok (.iload_n 1, 1) := by decide +kernel
theorem dJ0_charAt_5068e_21 : decode cJ0_charAt_5068e 21 = .ok (.invokestatic 498, 3) := by decide +kernel
theorem dJ0_charAt_5068e_24 : decode cJ0_charAt_5068e 24 = .ok (.ireturn, 1) := by decide +kernel
theorem dJ0_coder_7d493_0 : decode cJ0_coder_7d493 0 = .ok (.getstatic 38, 3) := by decide +kernel
theorem dJ0_coder_7d493_3 : decode cJ0_coder_7d493 3 = .ok (.ifCond .eq 10, 3) := by decide +kernel
theorem dJ0_coder_7d493_6 : decode cJ0_coder_7d493 6 = .ok (.aload_n 0, 1) := by decide +kernel
theorem dJ0_coder_7d493_7 : decode cJ0_coder_7d493 7 = .ok (.getfield 15, 3) := by decide +kernel
theorem dJ0_coder_7d493_10 : decode cJ0_coder_7d493 10 = .ok (.goto 4, 3) := by decide +kernel
theorem dJ0_coder_7d493_13 : decode cJ0_coder_7d493 13 = .ok (.iconst 1, 1) := by decide +kernel
theorem dJ0_coder_7d493_14 : decode cJ0_coder_7d493 14 = .ok (.ireturn, 1) := by decide +kernel
theorem dJ0_isLatin1_aae02_0 : decode cJ0_isLatin1_aae02 0 = .ok (.getstatic 38, 3) := by decide +kernel
theorem dJ0_isLatin1_aae02_3 : decode cJ0_isLatin1_aae02 3 = .ok (.ifCond .eq 14, 3) := by decide +kernel
theorem dJ0_isLatin1_aae02_6 : decode cJ0_isLatin1_aae02 6 = .ok (.aload_n 0, 1) := by decide +kernel
theorem dJ0_isLatin1_aae02_7 : decode cJ0_isLatin1_aae02 7 = .ok (.getfield 15, 3) := by decide +kernel
theorem dJ0_isLatin1_aae02_10 : decode cJ0_isLatin1_aae02 10 = .ok (.ifCond .ne 7, 3) := by decide +kernel
theorem dJ0_isLatin1_aae02_13 : decode cJ0_isLatin1_aae02 13 = .ok (.iconst 1, 1) := by decide +kernel
theorem dJ0_isLatin1_aae02_14 : decode cJ0_isLatin1_aae02 14 = .ok (.goto 4, 3) := by decide +kernel
theorem dJ0_isLatin1_aae02_17 : decode cJ0_isLatin1_aae02 17 = .ok (.iconst 0, 1) := by decide +kernel
theorem dJ0_isLatin1_aae02_18 : decode cJ0_isLatin1_aae02 18 = .ok (.ireturn, 1) := by decide +kernel
theorem dJ0_checkIndex_df160_0 : decode cJ0_checkIndex_df160 0 = .ok (.iload_n 0, 1) := by decide +kernel
theorem dJ0_checkIndex_df160_1 : decode cJ0_checkIndex_df160 1 = .ok (.iload_n 1, 1) := by decide +kernel
theorem dJ0_checkIndex_df160_2 : decode cJ0_checkIndex_df160 2 = .ok (.getstatic 1053, 3) := by decide +kernel
theorem dJ0_checkIndex_df160_5 : decode cJ0_checkIndex_df160 5 = .ok (.invokestatic 1059, 3) := by decide +kernel
theorem dJ0_checkIndex_df160_8 : decode cJ0_checkIndex_df160 8 = .ok (.pop, 1) := by decide +kernel
theorem dJ0_checkIndex_df160_9 : decode cJ0_checkIndex_df160 9 = .ok (.return_, 1) := by decide +kernel
theorem dJ1_charAt_3b067_0 : decode cJ1_charAt_3b067 0 = .ok (.iload_n 1, 1) := by decide +kernel
theorem dJ1_charAt_3b067_1 : decode cJ1_charAt_3b067 1 = .ok (.aload_n 0, 1) := by decide +kernel
theorem dJ1_charAt_3b067_2 : decode cJ1_charAt_3b067 2 = .ok (.arraylength, 1) := by decide +kernel
theorem dJ1_charAt_3b067_3 : decode cJ1_charAt_3b067 3 = .ok (.invokestatic 9, 3) := by decide +kernel
theorem dJ1_charAt_3b067_6 : decode cJ1_charAt_3b067 6 = .ok (.aload_n 0, 1) := by decide +kernel
theorem dJ1_charAt_3b067_7 : decode cJ1_charAt_3b067 7 = .ok (.iload_n 1, 1) := by decide +kernel
theorem dJ1_charAt_3b067_8 : decode cJ1_charAt_3b067 8 = .ok (.baload, 1) := by decide +kernel
theorem dJ1_charAt_3b067_9 : decode cJ1_charAt_3b067 9 = .ok (.sipush 255, 3) := by decide +kernel
theorem dJ1_charAt_3b067_12 : decode cJ1_charAt_3b067 12 = .ok (.iand, 1) := by decide +kernel
theorem dJ1_charAt_3b067_13 : decode cJ1_charAt_3b067 13 = .ok (.i2c, 1) := by decide +kernel
theorem dJ1_charAt_3b067_14 : decode cJ1_charAt_3b067 14 = .ok (.ireturn, 1) := by decide +kernel
theorem dJ2_getChar_3b067_0 : decode cJ2_getChar_3b067 0 = .ok (.getstatic 44, 3) := by decide +kernel
theorem dJ2_getChar_3b067_3 : decode cJ2_getChar_3b067 3 = .ok (.ifCond .ne 25, 3) := by decide +kernel
theorem dJ2_getChar_3b067_6 : decode cJ2_getChar_3b067 6 = .ok (.iload_n 1, 1) := by decide +kernel
theorem dJ2_getChar_3b067_7 : decode cJ2_getChar_3b067 7 = .ok (.ifCond .lt 11, 3) := by decide +kernel
theorem dJ2_getChar_3b067_10 : decode cJ2_getChar_3b067 10 = .ok (.iload_n 1, 1) := by decide +kernel
theorem dJ2_getChar_3b067_11 : decode cJ2_getChar_3b067 11 = .ok (.aload_n 0, 1) := by decide +kernel
theorem dJ2_getChar_3b067_12 : decode cJ2_getChar_3b067 12 = .ok (.invokestatic 48, 3) := by decide +kernel
theorem dJ2_getChar_3b067_15 : decode cJ2_getChar_3b067 15 = .ok (.if_icmp .lt 13, 3) := by decide +kernel
theorem dJ2_getChar_3b067_18 : decode cJ2_getChar_3b067 18 = .ok (.new 52, 3) := by decide +kernel
theorem dJ2_getChar_3b067_21 : decode cJ2_getChar_3b067 21 = .ok (.dup, 1) := by decide +kernel
theorem dJ2_getChar_3b067_22 : decode cJ2_getChar_3b067 22 = .ok (.ldc 54, 2) := by decide +kernel
theorem dJ2_getChar_3b067_24 : decode cJ2_getChar_3b067 24 = .ok (.invokespecial 56, 3) := by decide +kernel
theorem dJ2_getChar_3b067_27 : decode cJ2_getChar_3b067 27 = .ok (.athrow, 1) := by decide +kernel
theorem dJ2_getChar_3b067_28 : decode cJ2_getChar_3b067 28 = .ok (.iload_n 1, 1) := by decide +kernel
theorem dJ2_getChar_3b067_29 : decode cJ2_getChar_3b067 29 = .ok (.iconst 1, 1) := by decide +kernel
theorem dJ2_getChar_3b067_30 : decode cJ2_getChar_3b067 30 = .ok (.ishl, 1) := by decide +kernel
theorem dJ2_getChar_3b067_31 : decode cJ2_getChar_3b067 31 = .ok (.istore_n 1, 1) := by decide +kernel
theorem dJ2_getChar_3b067_32 : decode cJ2_getChar_3b067 32 = .ok (.aload_n 0, 1) := by decide +kernel
theorem dJ2_getChar_3b067_33 : decode cJ2_getChar_3b067 33 = .ok (.iload_n 1, 1) := by decide +kernel
theorem dJ2_getChar_3b067_34 : decode cJ2_getChar_3b067 34 = .ok (.iinc 1 1, 3) := by decide +kernel
theorem dJ2_getChar_3b067_37 : decode cJ2_getChar_3b067 37 = .ok (.baload, 1) := by decide +kernel
theorem dJ2_getChar_3b067_38 : decode cJ2_getChar_3b067 38 = .ok (.sipush 255, 3) := by decide +kernel
theorem dJ2_getChar_3b067_41 : decode cJ2_getChar_3b067 41 = .ok (.iand, 1) := by decide +kernel
theorem dJ2_getChar_3b067_42 : decode cJ2_getChar_3b067 42 = .ok (.getstatic 59, 3) := by decide +kernel
theorem dJ2_getChar_3b067_45 : decode cJ2_getChar_3b067 45 = .ok (.ishl, 1) := by decide +kernel
theorem dJ2_getChar_3b067_46 : decode cJ2_getChar_3b067 46 = .ok (.aload_n 0, 1) := by decide +kernel
theorem dJ2_getChar_3b067_47 : decode cJ2_getChar_3b067 47 = .ok (.iload_n 1, 1) := by decide +kernel
theorem dJ2_getChar_3b067_48 : decode cJ2_getChar_3b067 48 = .ok (.baload, 1) := by decide +kernel
theorem dJ2_getChar_3b067_49 : decode cJ2_getChar_3b067 49 = .ok (.sipush 255, 3) := by decide +kernel
theorem dJ2_getChar_3b067_52 : decode cJ2_getChar_3b067 52 = .ok (.iand, 1) := by decide +kernel
theorem dJ2_getChar_3b067_53 : decode cJ2_getChar_3b067 53 = .ok (.getstatic 63, 3) := by decide +kernel
theorem dJ2_getChar_3b067_56 : decode cJ2_getChar_3b067 56 = .ok (.ishl, 1) := by decide +kernel
theorem dJ2_getChar_3b067_57 : decode cJ2_getChar_3b067 57 = .ok (.ior, 1) := by decide +kernel
theorem dJ2_getChar_3b067_58 : decode cJ2_getChar_3b067 58 = .ok (.i2c, 1) := by decide +kernel
theorem dJ2_getChar_3b067_59 : decode cJ2_getChar_3b067 59 = .ok (.ireturn, 1) := by decide +kernel
theorem dJ2_length_9d52b_0 : decode cJ2_length_9d52b 0 = .ok (.aload_n 0, 1) := by decide +kernel
theorem dJ2_length_9d52b_1 : decode cJ2_length_9d52b 1 = .ok (.arraylength, 1) := by decide +kernel
theorem dJ2_length_9d52b_2 : decode cJ2_length_9d52b 2 = .ok (.iconst 1, 1) := by decide +kernel
theorem dJ2_length_9d52b_3 : decode cJ2_length_9d52b 3 = .ok (.ishr, 1) := by decide +kernel
theorem dJ2_length_9d52b_4 : decode cJ2_length_9d52b 4 = .ok (.ireturn, 1) := by decide +kernel
theorem dJ2_charAt_3b067_0 : decode cJ2_charAt_3b067 0 = .ok (.iload_n 1, 1) := by decide +kernel
theorem dJ2_charAt_3b067_1 : decode cJ2_charAt_3b067 1 = .ok (.aload_n 0, 1) := by decide +kernel
theorem dJ2_charAt_3b067_2 : decode cJ2_charAt_3b067 2 = .ok (.invokestatic 67, 3) := by decide +kernel
theorem dJ2_charAt_3b067_5 : decode cJ2_charAt_3b067 5 = .ok (.aload_n 0, 1) := by decide +kernel
theorem dJ2_charAt_3b067_6 : decode cJ2_charAt_3b067 6 = .ok (.iload_n 1, 1) := by decide +kernel
theorem dJ2_charAt_3b067_7 : decode cJ2_charAt_3b067 7 = .ok (.invokestatic 71, 3) := by decide +kernel
theorem dJ2_charAt_3b067_10 : decode cJ2_charAt_3b067 10 = .ok (.ireturn, 1) := by decide +kernel
theorem dJ2_checkIndex_2214a_0 : decode cJ2_checkIndex_2214a 0 = .ok (.iload_n 0, 1) := by decide +kernel
theorem dJ2_checkIndex_2214a_1 : decode cJ2_checkIndex_2214a 1 = .ok (.aload_n 1, 1) := by decide +kernel
theorem dJ2_checkIndex_2214a_2 : decode cJ2_checkIndex_2214a 2 = .ok (.invokestatic 48, 3) := by decide +kernel
theorem dJ2_checkIndex_2214a_5 : decode cJ2_checkIndex_2214a 5 = .ok (.invokestatic 414, 3) := by decide +kernel
theorem dJ2_checkIndex_2214a_8 : decode cJ2_checkIndex_2214a 8 = .ok (.return_, 1) := by decide +kernel
theorem dJ3_checkIndex_8e157_0 : decode cJ3_checkIndex_8e157 0 = .ok (.iload_n 0, 1) := by decide +kernel
theorem dJ3_checkIndex_8e157_1 : decode cJ3_checkIndex_8e157 1 = .ok (.ifCond .lt 8, 3) := by decide +kernel
theorem dJ3_checkIndex_8e157_4 : decode cJ3_checkIndex_8e157 4 = .ok (.iload_n 0, 1) := by decide +kernel
theorem dJ3_checkIndex_8e157_5 : decode cJ3_checkIndex_8e157 5 = .ok (.iload_n 1, 1) := by decide +kernel
theorem dJ3_checkIndex_8e157_6 : decode cJ3_checkIndex_8e157 6 = .ok (.if_icmp .lt 10, 3) := by decide +kernel
theorem dJ3_checkIndex_8e157_9 : decode cJ3_checkIndex_8e157 9 = .ok (.aload_n 2, 1) := by decide +kernel
theorem dJ3_checkIndex_8e157_10 : decode cJ3_checkIndex_8e157 10 = .ok (.iload_n 0, 1) := by decide +kernel
theorem dJ3_checkIndex_8e157_11 : decode cJ3_checkIndex_8e157 11 = .ok (.iload_n 1, 1) := by decide +kernel
theorem dJ3_checkIndex_8e157_12 : decode cJ3_checkIndex_8e157 12 = .ok (.invokestatic 95, 3) := by decide +kernel
theorem dJ3_checkIndex_8e157_15 : decode cJ3_checkIndex_8e157 15 = .ok (.athrow, 1) := by decide +kernel
theorem dJ3_checkIndex_8e157_16 : decode cJ3_checkIndex_8e157 16 = .ok (.iload_n 0, 1) := by decide +kernel
theorem dJ3_checkIndex_8e157_17 : decode cJ3_checkIndex_8e157 17 = .ok (.ireturn, 1) := by decide +kernel
