theorem d_A_copyOf_0 : decode b_A_copyOf 0 = .ok (.iload_n 1, 1) := by decide +kernel
theorem d_A_copyOf_1 : decode b_A_copyOf 1 = .ok (.aload_n 0, 1) := by decide +kernel
theorem d_A_copyOf_2 : decode b_A_copyOf 2 = .ok (.arraylength, 1) := by decide +kernel
theorem d_A_copyOf_3 : decode b_A_copyOf 3 = .ok (.if_icmp .ne 11, 3) := by decide +kernel
theorem d_A_copyOf_6 : decode b_A_copyOf 6 = .ok (.aload_n 0, 1) := by decide +kernel
theorem d_A_copyOf_7 : decode b_A_copyOf 7 = .ok (.invokevirtual 316, 3) := by decide +kernel
theorem d_A_copyOf_10 : decode b_A_copyOf 10 = .ok (.checkcast 317, 3) := by decide +kernel
theorem d_A_copyOf_13 : decode b_A_copyOf 13 = .ok (.areturn, 1) := by decide +kernel
theorem d_A_copyOf_14 : decode b_A_copyOf 14 = .ok (.iload_n 1, 1) := by decide +kernel
theorem d_A_copyOf_15 : decode b_A_copyOf 15 = .ok (.newarray .int, 2) := by decide +kernel
theorem d_A_copyOf_17 : decode b_A_copyOf 17 = .ok (.astore_n 2, 1) := by decide +kernel
theorem d_A_copyOf_18 : decode b_A_copyOf 18 = .ok (.aload_n 0, 1) := by decide +kernel
theorem d_A_copyOf_19 : decode b_A_copyOf 19 = .ok (.iconst 0, 1) := by decide +kernel
theorem d_A_copyOf_20 : decode b_A_copyOf 20 = .ok (.aload_n 2, 1) := by decide +kernel
theorem d_A_copyOf_21 : decode b_A_copyOf 21 = .ok (.iconst 0, 1) := by decide +kernel
theorem d_A_copyOf_22 : decode b_A_copyOf 22 = .ok (.aload_n 0, 1) := by decide +kernel
theorem d_A_copyOf_23 : decode b_A_copyOf 23 = .ok (.arraylength, 1) := by decide +kernel
theorem d_A_copyOf_24 : decode b_A_copyOf 24 = .ok (.iload_n 1, 1) := by decide +kernel
theorem d_A_copyOf_25 : decode b_A_copyOf 25 = .ok (.invokestatic 304, 3) := by decide +kernel
theorem d_A_copyOf_28 : decode b_A_copyOf 28 = .ok (.invokestatic 150, 3) := by decide +kernel
theorem d_A_copyOf_31 : decode b_A_copyOf 31 = .ok (.aload_n 2, 1) := by decide +kernel
theorem d_A_copyOf_32 : decode b_A_copyOf 32 = .ok (.areturn, 1) := by decide +kernel
theorem d_F_addArc_0 : decode b_F_addArc 0 = .ok (.aload_n 0, 1) := by decide +kernel
theorem d_F_addArc_1 : decode b_F_addArc 1 = .ok (.getfield 19, 3) := by decide +kernel
theorem d_F_addArc_4 : decode b_F_addArc 4 = .ok (.iload_n 3, 1) := by decide +kernel
theorem d_F_addArc_5 : decode b_F_addArc 5 = .ok (.isub, 1) := by decide +kernel
theorem d_F_addArc_6 : decode b_F_addArc 6 = .ok (.aload_n 0, 1) := by decide +kernel
theorem d_F_addArc_7 : decode b_F_addArc 7 = .ok (.getfield 23, 3) := by decide +kernel
theorem d_F_addArc_10 : decode b_F_addArc 10 = .ok (.iload 4, 2) := by decide +kernel
theorem d_F_addArc_12 : decode b_F_addArc 12 = .ok (.isub, 1) := by decide +kernel
theorem d_F_addArc_13 : decode b_F_addArc 13 = .ok (.invokestatic 39, 3) := by decide +kernel
theorem d_F_addArc_16 : decode b_F_addArc 16 = .ok (.istore 6, 2) := by decide +kernel
theorem d_F_addArc_18 : decode b_F_addArc 18 = .ok (.aload_n 0, 1) := by decide +kernel
theorem d_F_addArc_19 : decode b_F_addArc 19 = .ok (.getfield 19, 3) := by decide +kernel
theorem d_F_addArc_22 : decode b_F_addArc 22 = .ok (.iconst 1, 1) := by decide +kernel
theorem d_F_addArc_23 : decode b_F_addArc 23 = .ok (.iadd, 1) := by decide +kernel
theorem d_F_addArc_24 : decode b_F_addArc 24 = .ok (.istore 7, 2) := by decide +kernel
theorem d_F_addArc_26 : decode b_F_addArc 26 = .ok (.iload 7, 2) := by decide +kernel
theorem d_F_addArc_28 : decode b_F_addArc 28 = .ok (.iload_n 1, 1) := by decide +kernel
theorem d_F_addArc_29 : decode b_F_addArc 29 = .ok (.if_icmp .gt 68, 3) := by decide +kernel
theorem d_F_addArc_32 : decode b_F_addArc 32 = .ok (.iload 7, 2) := by decide +kernel
theorem d_F_addArc_34 : decode b_F_addArc 34 = .ok (.bipush 64, 2) := by decide +kernel
theorem d_F_addArc_36 : decode b_F_addArc 36 = .ok (.if_icmp .gt 61, 3) := by decide +kernel
theorem d_F_addArc_39 : decode b_F_addArc 39 = .ok (.iload 6, 2) := by decide +kernel
theorem d_F_addArc_41 : decode b_F_addArc 41 = .ok (.iload 7, 2) := by decide +kernel
theorem d_F_addArc_43 : decode b_F_addArc 43 = .ok (.iload_n 3, 1) := by decide +kernel
theorem d_F_addArc_44 : decode b_F_addArc 44 = .ok (.isub, 1) := by decide +kernel
theorem d_F_addArc_45 : decode b_F_addArc 45 = .ok (.iload 7, 2) := by decide +kernel
theorem d_F_addArc_47 : decode b_F_addArc 47 = .ok (.iload_n 3, 1) := by decide +kernel
theorem d_F_addArc_48 : decode b_F_addArc 48 = .ok (.isub, 1) := by decide +kernel
theorem d_F_addArc_49 : decode b_F_addArc 49 = .ok (.imul, 1) := by decide +kernel
theorem d_F_addArc_50 : decode b_F_addArc 50 = .ok (.isub, 1) := by decide +kernel
theorem d_F_addArc_51 : decode b_F_addArc 51 = .ok (.invokestatic 42, 3) := by decide +kernel
theorem d_F_addArc_54 : decode b_F_addArc 54 = .ok (.istore 8, 2) := by decide +kernel
theorem d_F_addArc_56 : decode b_F_addArc 56 = .ok (.aload_n 0, 1) := by decide +kernel
theorem d_F_addArc_57 : decode b_F_addArc 57 = .ok (.getfield 9, 3) := by decide +kernel
theorem d_F_addArc_60 : decode b_F_addArc 60 = .ok (.iload 7, 2) := by decide +kernel
theorem d_F_addArc_62 : decode b_F_addArc 62 = .ok (.iconst 0, 1) := by decide +kernel
theorem d_F_addArc_63 : decode b_F_addArc 63 = .ok (.sipush 500, 3) := by decide +kernel
theorem d_F_addArc_66 : decode b_F_addArc 66 = .ok (.iload 5, 2) := by decide +kernel
theorem d_F_addArc_68 : decode b_F_addArc 68 = .ok (.ifCond .eq 11, 3) := by decide +kernel
theorem d_F_addArc_71 : decode b_F_addArc 71 = .ok (.iload 4, 2) := by decide +kernel
theorem d_F_addArc_73 : decode b_F_addArc 73 = .ok (.iload 8, 2) := by decide +kernel
theorem d_F_addArc_75 : decode b_F_addArc 75 = .ok (.iadd, 1) := by decide +kernel
theorem d_F_addArc_76 : decode b_F_addArc 76 = .ok (.goto 8, 3) := by decide +kernel
theorem d_F_addArc_79 : decode b_F_addArc 79 = .ok (.iload 4, 2) := by decide +kernel
theorem d_F_addArc_81 : decode b_F_addArc 81 = .ok (.iload 8, 2) := by decide +kernel
theorem d_F_addArc_83 : decode b_F_addArc 83 = .ok (.isub, 1) := by decide +kernel
theorem d_F_addArc_84 : decode b_F_addArc 84 = .ok (.invokestatic 46, 3) := by decide +kernel
theorem d_F_addArc_87 : decode b_F_addArc 87 = .ok (.invokestatic 49, 3) := by decide +kernel
theorem d_F_addArc_90 : decode b_F_addArc 90 = .ok (.iastore, 1) := by decide +kernel
theorem d_F_addArc_91 : decode b_F_addArc 91 = .ok (.iinc 7 1, 3) := by decide +kernel
theorem d_F_addArc_94 : decode b_F_addArc 94 = .ok (.goto (-68), 3) := by decide +kernel
theorem d_F_addArc_97 : decode b_F_addArc 97 = .ok (.aload_n 0, 1) := by decide +kernel
theorem d_F_addArc_98 : decode b_F_addArc 98 = .ok (.iload_n 1, 1) := by decide +kernel
theorem d_F_addArc_99 : decode b_F_addArc 99 = .ok (.iload_n 2, 1) := by decide +kernel
theorem d_F_addArc_100 : decode b_F_addArc 100 = .ok (.invokevirtual 35, 3) := by decide +kernel
theorem d_F_addArc_103 : decode b_F_addArc 103 = .ok (.return_, 1) := by decide +kernel
theorem d_F_addLine_0 : decode b_F_addLine 0 = .ok (.iload_n 2, 1) := by decide +kernel
theorem d_F_addLine_1 : decode b_F_addLine 1 = .ok (.aload_n 0, 1) := by decide +kernel
theorem d_F_addLine_2 : decode b_F_addLine 2 = .ok (.getfield 23, 3) := by decide +kernel
theorem d_F_addLine_5 : decode b_F_addLine 5 = .ok (.isub, 1) := by decide +kernel
theorem d_F_addLine_6 : decode b_F_addLine 6 = .ok (.istore_n 3, 1) := by decide +kernel
theorem d_F_addLine_7 : decode b_F_addLine 7 = .ok (.aload_n 0, 1) := by decide +kernel
theorem d_F_addLine_8 : decode b_F_addLine 8 = .ok (.getfield 19, 3) := by decide +kernel
theorem d_F_addLine_11 : decode b_F_addLine 11 = .ok (.iconst 1, 1) := by decide +kernel
theorem d_F_addLine_12 : decode b_F_addLine 12 = .ok (.iadd, 1) := by decide +kernel
theorem d_F_addLine_13 : decode b_F_addLine 13 = .ok (.istore 4, 2) := by decide +kernel
theorem d_F_addLine_15 : decode b_F_addLine 15 = .ok (.iload 4, 2) := by decide +kernel
theorem d_F_addLine_17 : decode b_F_addLine 17 = .ok (.iload_n 1, 1) := by decide +kernel
theorem d_F_addLine_18 : decode b_F_addLine 18 = .ok (.if_icmp .gt 46, 3) := by decide +kernel
theorem d_F_addLine_21 : decode b_F_addLine 21 = .ok (.iload 4, 2) := by decide +kernel
theorem d_F_addLine_23 : decode b_F_addLine 23 = .ok (.bipush 64, 2) := by decide +kernel
theorem d_F_addLine_25 : decode b_F_addLine 25 = .ok (.if_icmp .gt 39, 3) := by decide +kernel
theorem d_F_addLine_28 : decode b_F_addLine 28 = .ok (.aload_n 0, 1) := by decide +kernel
theorem d_F_addLine_29 : decode b_F_addLine 29 = .ok (.getfield 9, 3) := by decide +kernel
theorem d_F_addLine_32 : decode b_F_addLine 32 = .ok (.iload 4, 2) := by decide +kernel
theorem d_F_addLine_34 : decode b_F_addLine 34 = .ok (.aload_n 0, 1) := by decide +kernel
theorem d_F_addLine_35 : decode b_F_addLine 35 = .ok (.getfield 23, 3) := by decide +kernel
theorem d_F_addLine_38 : decode b_F_addLine 38 = .ok (.iload 4, 2) := by decide +kernel
theorem d_F_addLine_40 : decode b_F_addLine 40 = .ok (.aload_n 0, 1) := by decide +kernel
theorem d_F_addLine_41 : decode b_F_addLine 41 = .ok (.getfield 19, 3) := by decide +kernel
theorem d_F_addLine_44 : decode b_F_addLine 44 = .ok (.isub, 1) := by decide +kernel
theorem d_F_addLine_45 : decode b_F_addLine 45 = .ok (.iload_n 3, 1) := by decide +kernel
theorem d_F_addLine_46 : decode b_F_addLine 46 = .ok (.imul, 1) := by decide +kernel
theorem d_F_addLine_47 : decode b_F_addLine 47 = .ok (.iload_n 1, 1) := by decide +kernel
theorem d_F_addLine_48 : decode b_F_addLine 48 = .ok (.aload_n 0, 1) := by decide +kernel
theorem d_F_addLine_49 : decode b_F_addLine 49 = .ok (.getfield 19, 3) := by decide +kernel
theorem d_F_addLine_52 : decode b_F_addLine 52 = .ok (.isub, 1) := by decide +kernel
theorem d_F_addLine_53 : decode b_F_addLine 53 = .ok (.invokestatic 29, 3) := by decide +kernel
theorem d_F_addLine_56 : decode b_F_addLine 56 = .ok (.iadd, 1) := by decide +kernel
theorem d_F_addLine_57 : decode b_F_addLine 57 = .ok (.iastore, 1) := by decide +kernel
theorem d_F_addLine_58 : decode b_F_addLine 58 = .ok (.iinc 4 1, 3) := by decide +kernel
theorem d_F_addLine_61 : decode b_F_addLine 61 = .ok (.goto (-46), 3) := by decide +kernel
theorem d_F_addLine_64 : decode b_F_addLine 64 = .ok (.aload_n 0, 1) := by decide +kernel
theorem d_F_addLine_65 : decode b_F_addLine 65 = .ok (.iload_n 1, 1) := by decide +kernel
theorem d_F_addLine_66 : decode b_F_addLine 66 = .ok (.iload_n 2, 1) := by decide +kernel
theorem d_F_addLine_67 : decode b_F_addLine 67 = .ok (.invokevirtual 35, 3) := by decide +kernel
theorem d_F_addLine_70 : decode b_F_addLine 70 = .ok (.return_, 1) := by decide +kernel
theorem d_F_arcFits_0 : decode b_F_arcFits 0 = .ok (.aload_n 0, 1) := by decide +kernel
theorem d_F_arcFits_1 : decode b_F_arcFits 1 = .ok (.getfield 19, 3) := by decide +kernel
theorem d_F_arcFits_4 : decode b_F_arcFits 4 = .ok (.iload_n 3, 1) := by decide +kernel
theorem d_F_arcFits_5 : decode b_F_arcFits 5 = .ok (.isub, 1) := by decide +kernel
theorem d_F_arcFits_6 : decode b_F_arcFits 6 = .ok (.aload_n 0, 1) := by decide +kernel
theorem d_F_arcFits_7 : decode b_F_arcFits 7 = .ok (.getfield 23, 3) := by decide +kernel
theorem d_F_arcFits_10 : decode b_F_arcFits 10 = .ok (.iload 4, 2) := by decide +kernel
theorem d_F_arcFits_12 : decode b_F_arcFits 12 = .ok (.isub, 1) := by decide +kernel
theorem d_F_arcFits_13 : decode b_F_arcFits 13 = .ok (.invokestatic 39, 3) := by decide +kernel
theorem d_F_arcFits_16 : decode b_F_arcFits 16 = .ok (.iload_n 1, 1) := by decide +kernel
theorem d_F_arcFits_17 : decode b_F_arcFits 17 = .ok (.iload_n 3, 1) := by decide +kernel
theorem d_F_arcFits_18 : decode b_F_arcFits 18 = .ok (.isub, 1) := by decide +kernel
theorem d_F_arcFits_19 : decode b_F_arcFits 19 = .ok (.iload_n 2, 1) := by decide +kernel
theorem d_F_arcFits_20 : decode b_F_arcFits 20 = .ok (.iload 4, 2) := by decide +kernel
theorem d_F_arcFits_22 : decode b_F_arcFits 22 = .ok (.isub, 1) := by decide +kernel
theorem d_F_arcFits_23 : decode b_F_arcFits 23 = .ok (.invokestatic 39, 3) := by decide +kernel
theorem d_F_arcFits_26 : decode b_F_arcFits 26 = .ok (.if_icmp .ne 7, 3) := by decide +kernel
theorem d_F_arcFits_29 : decode b_F_arcFits 29 = .ok (.iconst 1, 1) := by decide +kernel
theorem d_F_arcFits_30 : decode b_F_arcFits 30 = .ok (.goto 4, 3) := by decide +kernel
theorem d_F_arcFits_33 : decode b_F_arcFits 33 = .ok (.iconst 0, 1) := by decide +kernel
theorem d_F_arcFits_34 : decode b_F_arcFits 34 = .ok (.istore 6, 2) := by decide +kernel
theorem d_F_arcFits_36 : decode b_F_arcFits 36 = .ok (.iload 5, 2) := by decide +kernel
theorem d_F_arcFits_38 : decode b_F_arcFits 38 = .ok (.ifCond .eq 26, 3) := by decide +kernel
theorem d_F_arcFits_41 : decode b_F_arcFits 41 = .ok (.aload_n 0, 1) := by decide +kernel
theorem d_F_arcFits_42 : decode b_F_arcFits 42 = .ok (.getfield 23, 3) := by decide +kernel
theorem d_F_arcFits_45 : decode b_F_arcFits 45 = .ok (.iload 4, 2) := by decide +kernel
theorem d_F_arcFits_47 : decode b_F_arcFits 47 = .ok (.if_icmp .lt 13, 3) := by decide +kernel
theorem d_F_arcFits_50 : decode b_F_arcFits 50 = .ok (.iload_n 2, 1) := by decide +kernel
theorem d_F_arcFits_51 : decode b_F_arcFits 51 = .ok (.iload 4, 2) := by decide +kernel
theorem d_F_arcFits_53 : decode b_F_arcFits 53 = .ok (.if_icmp .lt 7, 3) := by decide +kernel
theorem d_F_arcFits_56 : decode b_F_arcFits 56 = .ok (.iconst 1, 1) := by decide +kernel
theorem d_F_arcFits_57 : decode b_F_arcFits 57 = .ok (.goto 27, 3) := by decide +kernel
theorem d_F_arcFits_60 : decode b_F_arcFits 60 = .ok (.iconst 0, 1) := by decide +kernel
theorem d_F_arcFits_61 : decode b_F_arcFits 61 = .ok (.goto 23, 3) := by decide +kernel
theorem d_F_arcFits_64 : decode b_F_arcFits 64 = .ok (.aload_n 0, 1) := by decide +kernel
theorem d_F_arcFits_65 : decode b_F_arcFits 65 = .ok (.getfield 23, 3) := by decide +kernel
theorem d_F_arcFits_68 : decode b_F_arcFits 68 = .ok (.iload 4, 2) := by decide +kernel
theorem d_F_arcFits_70 : decode b_F_arcFits 70 = .ok (.if_icmp .gt 13, 3) := by decide +kernel
theorem d_F_arcFits_73 : decode b_F_arcFits 73 = .ok (.iload_n 2, 1) := by decide +kernel
theorem d_F_arcFits_74 : decode b_F_arcFits 74 = .ok (.iload 4, 2) := by decide +kernel
theorem d_F_arcFits_76 : decode b_F_arcFits 76 = .ok (.if_icmp .gt 7, 3) := by decide +kernel
theorem d_F_arcFits_79 : decode b_F_arcFits 79 = .ok (.iconst 1, 1) := by decide +kernel
theorem d_F_arcFits_80 : decode b_F_arcFits 80 = .ok (.goto 4, 3) := by decide +kernel
theorem d_F_arcFits_83 : decode b_F_arcFits 83 = .ok (.iconst 0, 1) := by decide +kernel
theorem d_F_arcFits_84 : decode b_F_arcFits 84 = .ok (.istore 7, 2) := by decide +kernel
theorem d_F_arcFits_86 : decode b_F_arcFits 86 = .ok (.iload 6, 2) := by decide +kernel
theorem d_F_arcFits_88 : decode b_F_arcFits 88 = .ok (.ifCond .eq 12, 3) := by decide +kernel
theorem d_F_arcFits_91 : decode b_F_arcFits 91 = .ok (.iload 7, 2) := by decide +kernel
theorem d_F_arcFits_93 : decode b_F_arcFits 93 = .ok (.ifCond .eq 7, 3) := by decide +kernel
theorem d_F_arcFits_96 : decode b_F_arcFits 96 = .ok (.iconst 1, 1) := by decide +kernel
theorem d_F_arcFits_97 : decode b_F_arcFits 97 = .ok (.goto 4, 3) := by decide +kernel
theorem d_F_arcFits_100 : decode b_F_arcFits 100 = .ok (.iconst 0, 1) := by decide +kernel
theorem d_F_arcFits_101 : decode b_F_arcFits 101 = .ok (.ireturn, 1) := by decide +kernel
theorem d_F_begin_0 : decode b_F_begin 0 = .ok (.aload_n 0, 1) := by decide +kernel
theorem d_F_begin_1 : decode b_F_begin 1 = .ok (.iconst 1, 1) := by decide +kernel
theorem d_F_begin_2 : decode b_F_begin 2 = .ok (.putfield 15, 3) := by decide +kernel
theorem d_F_begin_5 : decode b_F_begin 5 = .ok (.aload_n 0, 1) := by decide +kernel
theorem d_F_begin_6 : decode b_F_begin 6 = .ok (.iconst 0, 1) := by decide +kernel
theorem d_F_begin_7 : decode b_F_begin 7 = .ok (.putfield 19, 3) := by decide +kernel
theorem d_F_begin_10 : decode b_F_begin 10 = .ok (.aload_n 0, 1) := by decide +kernel
theorem d_F_begin_11 : decode b_F_begin 11 = .ok (.iload_n 1, 1) := by decide +kernel
theorem d_F_begin_12 : decode b_F_begin 12 = .ok (.putfield 23, 3) := by decide +kernel
theorem d_F_begin_15 : decode b_F_begin 15 = .ok (.aload_n 0, 1) := by decide +kernel
theorem d_F_begin_16 : decode b_F_begin 16 = .ok (.iconst 0, 1) := by decide +kernel
theorem d_F_begin_17 : decode b_F_begin 17 = .ok (.putfield 26, 3) := by decide +kernel
theorem d_F_begin_20 : decode b_F_begin 20 = .ok (.aload_n 0, 1) := by decide +kernel
theorem d_F_begin_21 : decode b_F_begin 21 = .ok (.getfield 9, 3) := by decide +kernel
theorem d_F_begin_24 : decode b_F_begin 24 = .ok (.iconst 0, 1) := by decide +kernel
theorem d_F_begin_25 : decode b_F_begin 25 = .ok (.iload_n 1, 1) := by decide +kernel
theorem d_F_begin_26 : decode b_F_begin 26 = .ok (.iastore, 1) := by decide +kernel
theorem d_F_begin_27 : decode b_F_begin 27 = .ok (.return_, 1) := by decide +kernel
theorem d_F_goOnFrom_0 : decode b_F_goOnFrom 0 = .ok (.aload_n 0, 1) := by decide +kernel
theorem d_F_goOnFrom_1 : decode b_F_goOnFrom 1 = .ok (.iload_n 1, 1) := by decide +kernel
theorem d_F_goOnFrom_2 : decode b_F_goOnFrom 2 = .ok (.putfield 19, 3) := by decide +kernel
theorem d_F_goOnFrom_5 : decode b_F_goOnFrom 5 = .ok (.aload_n 0, 1) := by decide +kernel
theorem d_F_goOnFrom_6 : decode b_F_goOnFrom 6 = .ok (.iload_n 2, 1) := by decide +kernel
theorem d_F_goOnFrom_7 : decode b_F_goOnFrom 7 = .ok (.putfield 23, 3) := by decide +kernel
theorem d_F_goOnFrom_10 : decode b_F_goOnFrom 10 = .ok (.aload_n 0, 1) := by decide +kernel
theorem d_F_goOnFrom_11 : decode b_F_goOnFrom 11 = .ok (.dup, 1) := by decide +kernel
theorem d_F_goOnFrom_12 : decode b_F_goOnFrom 12 = .ok (.getfield 26, 3) := by decide +kernel
theorem d_F_goOnFrom_15 : decode b_F_goOnFrom 15 = .ok (.iconst 1, 1) := by decide +kernel
theorem d_F_goOnFrom_16 : decode b_F_goOnFrom 16 = .ok (.iadd, 1) := by decide +kernel
theorem d_F_goOnFrom_17 : decode b_F_goOnFrom 17 = .ok (.putfield 26, 3) := by decide +kernel
theorem d_F_goOnFrom_20 : decode b_F_goOnFrom 20 = .ok (.return_, 1) := by decide +kernel
theorem d_F_init_0 : decode b_F_init 0 = .ok (.aload_n 0, 1) := by decide +kernel
theorem d_F_init_1 : decode b_F_init 1 = .ok (.invokespecial 3, 3) := by decide +kernel
theorem d_F_init_4 : decode b_F_init 4 = .ok (.aload_n 0, 1) := by decide +kernel
theorem d_F_init_5 : decode b_F_init 5 = .ok (.bipush 65, 2) := by decide +kernel
theorem d_F_init_7 : decode b_F_init 7 = .ok (.newarray .int, 2) := by decide +kernel
theorem d_F_init_9 : decode b_F_init 9 = .ok (.putfield 9, 3) := by decide +kernel
theorem d_F_init_12 : decode b_F_init 12 = .ok (.return_, 1) := by decide +kernel
theorem d_F_squareFar_0 : decode b_F_squareFar 0 = .ok (.iload_n 0, 1) := by decide +kernel
theorem d_F_squareFar_1 : decode b_F_squareFar 1 = .ok (.iload_n 0, 1) := by decide +kernel
theorem d_F_squareFar_2 : decode b_F_squareFar 2 = .ok (.imul, 1) := by decide +kernel
theorem d_F_squareFar_3 : decode b_F_squareFar 3 = .ok (.iload_n 1, 1) := by decide +kernel
theorem d_F_squareFar_4 : decode b_F_squareFar 4 = .ok (.iload_n 1, 1) := by decide +kernel
theorem d_F_squareFar_5 : decode b_F_squareFar 5 = .ok (.imul, 1) := by decide +kernel
theorem d_F_squareFar_6 : decode b_F_squareFar 6 = .ok (.iadd, 1) := by decide +kernel
theorem d_F_squareFar_7 : decode b_F_squareFar 7 = .ok (.ireturn, 1) := by decide +kernel
theorem d_G_addWedge_0 : decode b_G_addWedge 0 = .ok (.aload_n 0, 1) := by decide +kernel
theorem d_G_addWedge_1 : decode b_G_addWedge 1 = .ok (.getfield 9, 3) := by decide +kernel
theorem d_G_addWedge_4 : decode b_G_addWedge 4 = .ok (.aload_n 0, 1) := by decide +kernel
theorem d_G_addWedge_5 : decode b_G_addWedge 5 = .ok (.getfield 18, 3) := by decide +kernel
theorem d_G_addWedge_8 : decode b_G_addWedge 8 = .ok (.iload_n 1, 1) := by decide +kernel
theorem d_G_addWedge_9 : decode b_G_addWedge 9 = .ok (.iastore, 1) := by decide +kernel
theorem d_G_addWedge_10 : decode b_G_addWedge 10 = .ok (.aload_n 0, 1) := by decide +kernel
theorem d_G_addWedge_11 : decode b_G_addWedge 11 = .ok (.getfield 15, 3) := by decide +kernel
theorem d_G_addWedge_14 : decode b_G_addWedge 14 = .ok (.aload_n 0, 1) := by decide +kernel
theorem d_G_addWedge_15 : decode b_G_addWedge 15 = .ok (.getfield 18, 3) := by decide +kernel
theorem d_G_addWedge_18 : decode b_G_addWedge 18 = .ok (.iload_n 2, 1) := by decide +kernel
theorem d_G_addWedge_19 : decode b_G_addWedge 19 = .ok (.iastore, 1) := by decide +kernel
theorem d_G_addWedge_20 : decode b_G_addWedge 20 = .ok (.aload_n 0, 1) := by decide +kernel
theorem d_G_addWedge_21 : decode b_G_addWedge 21 = .ok (.dup, 1) := by decide +kernel
theorem d_G_addWedge_22 : decode b_G_addWedge 22 = .ok (.getfield 18, 3) := by decide +kernel
theorem d_G_addWedge_25 : decode b_G_addWedge 25 = .ok (.iconst 1, 1) := by decide +kernel
theorem d_G_addWedge_26 : decode b_G_addWedge 26 = .ok (.iadd, 1) := by decide +kernel
theorem d_G_addWedge_27 : decode b_G_addWedge 27 = .ok (.putfield 18, 3) := by decide +kernel
theorem d_G_addWedge_30 : decode b_G_addWedge 30 = .ok (.aload_n 0, 1) := by decide +kernel
theorem d_G_addWedge_31 : decode b_G_addWedge 31 = .ok (.dup, 1) := by decide +kernel
theorem d_G_addWedge_32 : decode b_G_addWedge 32 = .ok (.getfield 22, 3) := by decide +kernel
theorem d_G_addWedge_35 : decode b_G_addWedge 35 = .ok (.iload_n 1, 1) := by decide +kernel
theorem d_G_addWedge_36 : decode b_G_addWedge 36 = .ok (.i2l, 1) := by decide +kernel
theorem d_G_addWedge_37 : decode b_G_addWedge 37 = .ok (.sipush 27720, 3) := by decide +kernel
theorem d_G_addWedge_40 : decode b_G_addWedge 40 = .ok (.iload_n 2, 1) := by decide +kernel
theorem d_G_addWedge_41 : decode b_G_addWedge 41 = .ok (.idiv, 1) := by decide +kernel
theorem d_G_addWedge_42 : decode b_G_addWedge 42 = .ok (.i2l, 1) := by decide +kernel
theorem d_G_addWedge_43 : decode b_G_addWedge 43 = .ok (.lmul, 1) := by decide +kernel
theorem d_G_addWedge_44 : decode b_G_addWedge 44 = .ok (.ladd, 1) := by decide +kernel
theorem d_G_addWedge_45 : decode b_G_addWedge 45 = .ok (.putfield 22, 3) := by decide +kernel
theorem d_G_addWedge_48 : decode b_G_addWedge 48 = .ok (.return_, 1) := by decide +kernel
theorem d_G_gapParts_0 : decode b_G_gapParts 0 = .ok (.ldc2_w 26, 3) := by decide +kernel
theorem d_G_gapParts_3 : decode b_G_gapParts 3 = .ok (.aload_n 0, 1) := by decide +kernel
theorem d_G_gapParts_4 : decode b_G_gapParts 4 = .ok (.getfield 22, 3) := by decide +kernel
theorem d_G_gapParts_7 : decode b_G_gapParts 7 = .ok (.lsub, 1) := by decide +kernel
theorem d_G_gapParts_8 : decode b_G_gapParts 8 = .ok (.lreturn, 1) := by decide +kernel
theorem d_G_init_0 : decode b_G_init 0 = .ok (.aload_n 0, 1) := by decide +kernel
theorem d_G_init_1 : decode b_G_init 1 = .ok (.invokespecial 3, 3) := by decide +kernel
theorem d_G_init_4 : decode b_G_init 4 = .ok (.aload_n 0, 1) := by decide +kernel
theorem d_G_init_5 : decode b_G_init 5 = .ok (.bipush 16, 2) := by decide +kernel
theorem d_G_init_7 : decode b_G_init 7 = .ok (.newarray .int, 2) := by decide +kernel
theorem d_G_init_9 : decode b_G_init 9 = .ok (.putfield 9, 3) := by decide +kernel
theorem d_G_init_12 : decode b_G_init 12 = .ok (.aload_n 0, 1) := by decide +kernel
theorem d_G_init_13 : decode b_G_init 13 = .ok (.bipush 16, 2) := by decide +kernel
theorem d_G_init_15 : decode b_G_init 15 = .ok (.newarray .int, 2) := by decide +kernel
theorem d_G_init_17 : decode b_G_init 17 = .ok (.putfield 15, 3) := by decide +kernel
theorem d_G_init_20 : decode b_G_init 20 = .ok (.return_, 1) := by decide +kernel
theorem d_J_abs_0 : decode b_J_abs 0 = .ok (.iload_n 0, 1) := by decide +kernel
theorem d_J_abs_1 : decode b_J_abs 1 = .ok (.ifCond .ge 8, 3) := by decide +kernel
theorem d_J_abs_4 : decode b_J_abs 4 = .ok (.iload_n 0, 1) := by decide +kernel
theorem d_J_abs_5 : decode b_J_abs 5 = .ok (.ineg, 1) := by decide +kernel
theorem d_J_abs_6 : decode b_J_abs 6 = .ok (.goto 4, 3) := by decide +kernel
theorem d_J_abs_9 : decode b_J_abs 9 = .ok (.iload_n 0, 1) := by decide +kernel
theorem d_J_abs_10 : decode b_J_abs 10 = .ok (.ireturn, 1) := by decide +kernel
theorem d_J_abs_JJ_0 : decode b_J_abs_JJ 0 = .ok (.lload_n 0, 1) := by decide +kernel
theorem d_J_abs_JJ_1 : decode b_J_abs_JJ 1 = .ok (.lconst 0, 1) := by decide +kernel
theorem d_J_abs_JJ_2 : decode b_J_abs_JJ 2 = .ok (.lcmp, 1) := by decide +kernel
theorem d_J_abs_JJ_3 : decode b_J_abs_JJ 3 = .ok (.ifCond .ge 8, 3) := by decide +kernel
theorem d_J_abs_JJ_6 : decode b_J_abs_JJ 6 = .ok (.lload_n 0, 1) := by decide +kernel
theorem d_J_abs_JJ_7 : decode b_J_abs_JJ 7 = .ok (.lneg, 1) := by decide +kernel
theorem d_J_abs_JJ_8 : decode b_J_abs_JJ 8 = .ok (.goto 4, 3) := by decide +kernel
theorem d_J_abs_JJ_11 : decode b_J_abs_JJ 11 = .ok (.lload_n 0, 1) := by decide +kernel
theorem d_J_abs_JJ_12 : decode b_J_abs_JJ 12 = .ok (.lreturn, 1) := by decide +kernel
theorem d_J_floorDiv_0 : decode b_J_floorDiv 0 = .ok (.iload_n 0, 1) := by decide +kernel
theorem d_J_floorDiv_1 : decode b_J_floorDiv 1 = .ok (.iload_n 1, 1) := by decide +kernel
theorem d_J_floorDiv_2 : decode b_J_floorDiv 2 = .ok (.idiv, 1) := by decide +kernel
theorem d_J_floorDiv_3 : decode b_J_floorDiv 3 = .ok (.istore_n 2, 1) := by decide +kernel
theorem d_J_floorDiv_4 : decode b_J_floorDiv 4 = .ok (.iload_n 0, 1) := by decide +kernel
theorem d_J_floorDiv_5 : decode b_J_floorDiv 5 = .ok (.iload_n 1, 1) := by decide +kernel
theorem d_J_floorDiv_6 : decode b_J_floorDiv 6 = .ok (.ixor, 1) := by decide +kernel
theorem d_J_floorDiv_7 : decode b_J_floorDiv 7 = .ok (.ifCond .ge 14, 3) := by decide +kernel
theorem d_J_floorDiv_10 : decode b_J_floorDiv 10 = .ok (.iload_n 2, 1) := by decide +kernel
theorem d_J_floorDiv_11 : decode b_J_floorDiv 11 = .ok (.iload_n 1, 1) := by decide +kernel
theorem d_J_floorDiv_12 : decode b_J_floorDiv 12 = .ok (.imul, 1) := by decide +kernel
theorem d_J_floorDiv_13 : decode b_J_floorDiv 13 = .ok (.iload_n 0, 1) := by decide +kernel
theorem d_J_floorDiv_14 : decode b_J_floorDiv 14 = .ok (.if_icmp .eq 7, 3) := by decide +kernel
theorem d_J_floorDiv_17 : decode b_J_floorDiv 17 = .ok (.iload_n 2, 1) := by decide +kernel
theorem d_J_floorDiv_18 : decode b_J_floorDiv 18 = .ok (.iconst 1, 1) := by decide +kernel
theorem d_J_floorDiv_19 : decode b_J_floorDiv 19 = .ok (.isub, 1) := by decide +kernel
theorem d_J_floorDiv_20 : decode b_J_floorDiv 20 = .ok (.ireturn, 1) := by decide +kernel
theorem d_J_floorDiv_21 : decode b_J_floorDiv 21 = .ok (.iload_n 2, 1) := by decide +kernel
theorem d_J_floorDiv_22 : decode b_J_floorDiv 22 = .ok (.ireturn, 1) := by decide +kernel
theorem d_J_max_0 : decode b_J_max 0 = .ok (.iload_n 0, 1) := by decide +kernel
theorem d_J_max_1 : decode b_J_max 1 = .ok (.iload_n 1, 1) := by decide +kernel
theorem d_J_max_2 : decode b_J_max 2 = .ok (.if_icmp .lt 7, 3) := by decide +kernel
theorem d_J_max_5 : decode b_J_max 5 = .ok (.iload_n 0, 1) := by decide +kernel
theorem d_J_max_6 : decode b_J_max 6 = .ok (.goto 4, 3) := by decide +kernel
theorem d_J_max_9 : decode b_J_max 9 = .ok (.iload_n 1, 1) := by decide +kernel
theorem d_J_max_10 : decode b_J_max 10 = .ok (.ireturn, 1) := by decide +kernel
theorem d_J_min_0 : decode b_J_min 0 = .ok (.iload_n 0, 1) := by decide +kernel
theorem d_J_min_1 : decode b_J_min 1 = .ok (.iload_n 1, 1) := by decide +kernel
theorem d_J_min_2 : decode b_J_min 2 = .ok (.if_icmp .gt 7, 3) := by decide +kernel
theorem d_J_min_5 : decode b_J_min 5 = .ok (.iload_n 0, 1) := by decide +kernel
theorem d_J_min_6 : decode b_J_min 6 = .ok (.goto 4, 3) := by decide +kernel
theorem d_J_min_9 : decode b_J_min 9 = .ok (.iload_n 1, 1) := by decide +kernel
theorem d_J_min_10 : decode b_J_min 10 = .ok (.ireturn, 1) := by decide +kernel
theorem d_N_init_0 : decode b_N_init 0 = .ok (.aload_n 0, 1) := by decide +kernel
theorem d_N_init_1 : decode b_N_init 1 = .ok (.invokespecial 1, 3) := by decide +kernel
theorem d_N_init_4 : decode b_N_init 4 = .ok (.aload_n 0, 1) := by decide +kernel
theorem d_N_init_5 : decode b_N_init 5 = .ok (.iload_n 1, 1) := by decide +kernel
theorem d_N_init_6 : decode b_N_init 6 = .ok (.iconst 1, 1) := by decide +kernel
theorem d_N_init_7 : decode b_N_init 7 = .ok (.iadd, 1) := by decide +kernel
theorem d_N_init_8 : decode b_N_init 8 = .ok (.newarray .int, 2) := by decide +kernel
theorem d_N_init_10 : decode b_N_init 10 = .ok (.putfield 7, 3) := by decide +kernel
theorem d_N_init_13 : decode b_N_init 13 = .ok (.iconst 0, 1) := by decide +kernel
theorem d_N_init_14 : decode b_N_init 14 = .ok (.istore_n 2, 1) := by decide +kernel
theorem d_N_init_15 : decode b_N_init 15 = .ok (.iload_n 2, 1) := by decide +kernel
theorem d_N_init_16 : decode b_N_init 16 = .ok (.iload_n 1, 1) := by decide +kernel
theorem d_N_init_17 : decode b_N_init 17 = .ok (.if_icmp .gt 25, 3) := by decide +kernel
theorem d_N_init_20 : decode b_N_init 20 = .ok (.aload_n 0, 1) := by decide +kernel
theorem d_N_init_21 : decode b_N_init 21 = .ok (.getfield 7, 3) := by decide +kernel
theorem d_N_init_24 : decode b_N_init 24 = .ok (.iload_n 2, 1) := by decide +kernel
theorem d_N_init_25 : decode b_N_init 25 = .ok (.iload_n 1, 1) := by decide +kernel
theorem d_N_init_26 : decode b_N_init 26 = .ok (.iload_n 1, 1) := by decide +kernel
theorem d_N_init_27 : decode b_N_init 27 = .ok (.imul, 1) := by decide +kernel
theorem d_N_init_28 : decode b_N_init 28 = .ok (.iload_n 2, 1) := by decide +kernel
theorem d_N_init_29 : decode b_N_init 29 = .ok (.iload_n 2, 1) := by decide +kernel
theorem d_N_init_30 : decode b_N_init 30 = .ok (.imul, 1) := by decide +kernel
theorem d_N_init_31 : decode b_N_init 31 = .ok (.isub, 1) := by decide +kernel
theorem d_N_init_32 : decode b_N_init 32 = .ok (.invokestatic 13, 3) := by decide +kernel
theorem d_N_init_35 : decode b_N_init 35 = .ok (.iastore, 1) := by decide +kernel
theorem d_N_init_36 : decode b_N_init 36 = .ok (.iinc 2 1, 3) := by decide +kernel
theorem d_N_init_39 : decode b_N_init 39 = .ok (.goto (-24), 3) := by decide +kernel
theorem d_N_init_42 : decode b_N_init 42 = .ok (.return_, 1) := by decide +kernel
theorem d_P_greatestDifference_0 : decode b_P_greatestDifference 0 = .ok (.iconst 0, 1) := by decide +kernel
theorem d_P_greatestDifference_1 : decode b_P_greatestDifference 1 = .ok (.istore_n 2, 1) := by decide +kernel
theorem d_P_greatestDifference_2 : decode b_P_greatestDifference 2 = .ok (.iconst 0, 1) := by decide +kernel
theorem d_P_greatestDifference_3 : decode b_P_greatestDifference 3 = .ok (.istore_n 3, 1) := by decide +kernel
theorem d_P_greatestDifference_4 : decode b_P_greatestDifference 4 = .ok (.iload_n 3, 1) := by decide +kernel
theorem d_P_greatestDifference_5 : decode b_P_greatestDifference 5 = .ok (.aload_n 0, 1) := by decide +kernel
theorem d_P_greatestDifference_6 : decode b_P_greatestDifference 6 = .ok (.getfield 28, 3) := by decide +kernel
theorem d_P_greatestDifference_9 : decode b_P_greatestDifference 9 = .ok (.if_icmp .gt 38, 3) := by decide +kernel
theorem d_P_greatestDifference_12 : decode b_P_greatestDifference 12 = .ok (.iload_n 3, 1) := by decide +kernel
theorem d_P_greatestDifference_13 : decode b_P_greatestDifference 13 = .ok (.aload_n 1, 1) := by decide +kernel
theorem d_P_greatestDifference_14 : decode b_P_greatestDifference 14 = .ok (.getfield 28, 3) := by decide +kernel
theorem d_P_greatestDifference_17 : decode b_P_greatestDifference 17 = .ok (.if_icmp .gt 30, 3) := by decide +kernel
theorem d_P_greatestDifference_20 : decode b_P_greatestDifference 20 = .ok (.iload_n 2, 1) := by decide +kernel
theorem d_P_greatestDifference_21 : decode b_P_greatestDifference 21 = .ok (.aload_n 0, 1) := by decide +kernel
theorem d_P_greatestDifference_22 : decode b_P_greatestDifference 22 = .ok (.getfield 25, 3) := by decide +kernel
theorem d_P_greatestDifference_25 : decode b_P_greatestDifference 25 = .ok (.iload_n 3, 1) := by decide +kernel
theorem d_P_greatestDifference_26 : decode b_P_greatestDifference 26 = .ok (.iaload, 1) := by decide +kernel
theorem d_P_greatestDifference_27 : decode b_P_greatestDifference 27 = .ok (.aload_n 1, 1) := by decide +kernel
theorem d_P_greatestDifference_28 : decode b_P_greatestDifference 28 = .ok (.getfield 25, 3) := by decide +kernel
theorem d_P_greatestDifference_31 : decode b_P_greatestDifference 31 = .ok (.iload_n 3, 1) := by decide +kernel
theorem d_P_greatestDifference_32 : decode b_P_greatestDifference 32 = .ok (.iaload, 1) := by decide +kernel
theorem d_P_greatestDifference_33 : decode b_P_greatestDifference 33 = .ok (.isub, 1) := by decide +kernel
theorem d_P_greatestDifference_34 : decode b_P_greatestDifference 34 = .ok (.invokestatic 47, 3) := by decide +kernel
theorem d_P_greatestDifference_37 : decode b_P_greatestDifference 37 = .ok (.invokestatic 35, 3) := by decide +kernel
theorem d_P_greatestDifference_40 : decode b_P_greatestDifference 40 = .ok (.istore_n 2, 1) := by decide +kernel
theorem d_P_greatestDifference_41 : decode b_P_greatestDifference 41 = .ok (.iinc 3 1, 3) := by decide +kernel
theorem d_P_greatestDifference_44 : decode b_P_greatestDifference 44 = .ok (.goto (-40), 3) := by decide +kernel
theorem d_P_greatestDifference_47 : decode b_P_greatestDifference 47 = .ok (.iload_n 2, 1) := by decide +kernel
theorem d_P_greatestDifference_48 : decode b_P_greatestDifference 48 = .ok (.ireturn, 1) := by decide +kernel
theorem d_P_heldBehind_0 : decode b_P_heldBehind 0 = .ok (.iload_n 1, 1) := by decide +kernel
theorem d_P_heldBehind_1 : decode b_P_heldBehind 1 = .ok (.iconst 1, 1) := by decide +kernel
theorem d_P_heldBehind_2 : decode b_P_heldBehind 2 = .ok (.iadd, 1) := by decide +kernel
theorem d_P_heldBehind_3 : decode b_P_heldBehind 3 = .ok (.istore_n 3, 1) := by decide +kernel
theorem d_P_heldBehind_4 : decode b_P_heldBehind 4 = .ok (.aload_n 0, 1) := by decide +kernel
theorem d_P_heldBehind_5 : decode b_P_heldBehind 5 = .ok (.getfield 25, 3) := by decide +kernel
theorem d_P_heldBehind_8 : decode b_P_heldBehind 8 = .ok (.iload_n 1, 1) := by decide +kernel
theorem d_P_heldBehind_9 : decode b_P_heldBehind 9 = .ok (.iaload, 1) := by decide +kernel
theorem d_P_heldBehind_10 : decode b_P_heldBehind 10 = .ok (.istore 4, 2) := by decide +kernel
theorem d_P_heldBehind_12 : decode b_P_heldBehind 12 = .ok (.iload_n 1, 1) := by decide +kernel
theorem d_P_heldBehind_13 : decode b_P_heldBehind 13 = .ok (.iconst 1, 1) := by decide +kernel
theorem d_P_heldBehind_14 : decode b_P_heldBehind 14 = .ok (.iadd, 1) := by decide +kernel
theorem d_P_heldBehind_15 : decode b_P_heldBehind 15 = .ok (.istore 5, 2) := by decide +kernel
theorem d_P_heldBehind_17 : decode b_P_heldBehind 17 = .ok (.iload 5, 2) := by decide +kernel
theorem d_P_heldBehind_19 : decode b_P_heldBehind 19 = .ok (.aload_n 0, 1) := by decide +kernel
theorem d_P_heldBehind_20 : decode b_P_heldBehind 20 = .ok (.getfield 28, 3) := by decide +kernel
theorem d_P_heldBehind_23 : decode b_P_heldBehind 23 = .ok (.if_icmp .gt 40, 3) := by decide +kernel
theorem d_P_heldBehind_26 : decode b_P_heldBehind 26 = .ok (.iload 4, 2) := by decide +kernel
theorem d_P_heldBehind_28 : decode b_P_heldBehind 28 = .ok (.aload_n 0, 1) := by decide +kernel
theorem d_P_heldBehind_29 : decode b_P_heldBehind 29 = .ok (.getfield 25, 3) := by decide +kernel
theorem d_P_heldBehind_32 : decode b_P_heldBehind 32 = .ok (.iload 5, 2) := by decide +kernel
theorem d_P_heldBehind_34 : decode b_P_heldBehind 34 = .ok (.iaload, 1) := by decide +kernel
theorem d_P_heldBehind_35 : decode b_P_heldBehind 35 = .ok (.invokestatic 44, 3) := by decide +kernel
theorem d_P_heldBehind_38 : decode b_P_heldBehind 38 = .ok (.istore 4, 2) := by decide +kernel
theorem d_P_heldBehind_40 : decode b_P_heldBehind 40 = .ok (.iload 5, 2) := by decide +kernel
theorem d_P_heldBehind_42 : decode b_P_heldBehind 42 = .ok (.iload_n 1, 1) := by decide +kernel
theorem d_P_heldBehind_43 : decode b_P_heldBehind 43 = .ok (.isub, 1) := by decide +kernel
theorem d_P_heldBehind_44 : decode b_P_heldBehind 44 = .ok (.iload_n 2, 1) := by decide +kernel
theorem d_P_heldBehind_45 : decode b_P_heldBehind 45 = .ok (.imul, 1) := by decide +kernel
theorem d_P_heldBehind_46 : decode b_P_heldBehind 46 = .ok (.iload 4, 2) := by decide +kernel
theorem d_P_heldBehind_48 : decode b_P_heldBehind 48 = .ok (.if_icmp .le 6, 3) := by decide +kernel
theorem d_P_heldBehind_51 : decode b_P_heldBehind 51 = .ok (.goto 12, 3) := by decide +kernel
theorem d_P_heldBehind_54 : decode b_P_heldBehind 54 = .ok (.iload 5, 2) := by decide +kernel
theorem d_P_heldBehind_56 : decode b_P_heldBehind 56 = .ok (.istore_n 3, 1) := by decide +kernel
theorem d_P_heldBehind_57 : decode b_P_heldBehind 57 = .ok (.iinc 5 1, 3) := by decide +kernel
theorem d_P_heldBehind_60 : decode b_P_heldBehind 60 = .ok (.goto (-43), 3) := by decide +kernel
theorem d_P_heldBehind_63 : decode b_P_heldBehind 63 = .ok (.iload_n 3, 1) := by decide +kernel
theorem d_P_heldBehind_64 : decode b_P_heldBehind 64 = .ok (.ireturn, 1) := by decide +kernel
theorem d_P_init_0 : decode b_P_init 0 = .ok (.aload_n 0, 1) := by decide +kernel
theorem d_P_init_1 : decode b_P_init 1 = .ok (.invokespecial 3, 3) := by decide +kernel
theorem d_P_init_4 : decode b_P_init 4 = .ok (.aload_n 0, 1) := by decide +kernel
theorem d_P_init_5 : decode b_P_init 5 = .ok (.aload_n 1, 1) := by decide +kernel
theorem d_P_init_6 : decode b_P_init 6 = .ok (.getfield 9, 3) := by decide +kernel
theorem d_P_init_9 : decode b_P_init 9 = .ok (.aload_n 1, 1) := by decide +kernel
theorem d_P_init_10 : decode b_P_init 10 = .ok (.getfield 15, 3) := by decide +kernel
theorem d_P_init_13 : decode b_P_init 13 = .ok (.iconst 1, 1) := by decide +kernel
theorem d_P_init_14 : decode b_P_init 14 = .ok (.iadd, 1) := by decide +kernel
theorem d_P_init_15 : decode b_P_init 15 = .ok (.invokestatic 19, 3) := by decide +kernel
theorem d_P_init_18 : decode b_P_init 18 = .ok (.putfield 25, 3) := by decide +kernel
theorem d_P_init_21 : decode b_P_init 21 = .ok (.aload_n 0, 1) := by decide +kernel
theorem d_P_init_22 : decode b_P_init 22 = .ok (.aload_n 1, 1) := by decide +kernel
theorem d_P_init_23 : decode b_P_init 23 = .ok (.getfield 15, 3) := by decide +kernel
theorem d_P_init_26 : decode b_P_init 26 = .ok (.putfield 28, 3) := by decide +kernel
theorem d_P_init_29 : decode b_P_init 29 = .ok (.aload_n 0, 1) := by decide +kernel
theorem d_P_init_30 : decode b_P_init 30 = .ok (.aload_n 1, 1) := by decide +kernel
theorem d_P_init_31 : decode b_P_init 31 = .ok (.getfield 31, 3) := by decide +kernel
theorem d_P_init_34 : decode b_P_init 34 = .ok (.putfield 34, 3) := by decide +kernel
theorem d_P_init_37 : decode b_P_init 37 = .ok (.iconst 0, 1) := by decide +kernel
theorem d_P_init_38 : decode b_P_init 38 = .ok (.istore_n 2, 1) := by decide +kernel
theorem d_P_init_39 : decode b_P_init 39 = .ok (.iconst 0, 1) := by decide +kernel
theorem d_P_init_40 : decode b_P_init 40 = .ok (.istore_n 3, 1) := by decide +kernel
theorem d_P_init_41 : decode b_P_init 41 = .ok (.iload_n 3, 1) := by decide +kernel
theorem d_P_init_42 : decode b_P_init 42 = .ok (.aload_n 0, 1) := by decide +kernel
theorem d_P_init_43 : decode b_P_init 43 = .ok (.getfield 25, 3) := by decide +kernel
theorem d_P_init_46 : decode b_P_init 46 = .ok (.arraylength, 1) := by decide +kernel
theorem d_P_init_47 : decode b_P_init 47 = .ok (.if_icmp .ge 20, 3) := by decide +kernel
theorem d_P_init_50 : decode b_P_init 50 = .ok (.iload_n 2, 1) := by decide +kernel
theorem d_P_init_51 : decode b_P_init 51 = .ok (.aload_n 0, 1) := by decide +kernel
theorem d_P_init_52 : decode b_P_init 52 = .ok (.getfield 25, 3) := by decide +kernel
theorem d_P_init_55 : decode b_P_init 55 = .ok (.iload_n 3, 1) := by decide +kernel
theorem d_P_init_56 : decode b_P_init 56 = .ok (.iaload, 1) := by decide +kernel
theorem d_P_init_57 : decode b_P_init 57 = .ok (.invokestatic 35, 3) := by decide +kernel
theorem d_P_init_60 : decode b_P_init 60 = .ok (.istore_n 2, 1) := by decide +kernel
theorem d_P_init_61 : decode b_P_init 61 = .ok (.iinc 3 1, 3) := by decide +kernel
theorem d_P_init_64 : decode b_P_init 64 = .ok (.goto (-23), 3) := by decide +kernel
theorem d_P_init_67 : decode b_P_init 67 = .ok (.aload_n 0, 1) := by decide +kernel
theorem d_P_init_68 : decode b_P_init 68 = .ok (.iload_n 2, 1) := by decide +kernel
theorem d_P_init_69 : decode b_P_init 69 = .ok (.iconst 3, 1) := by decide +kernel
theorem d_P_init_70 : decode b_P_init 70 = .ok (.iadd, 1) := by decide +kernel
theorem d_P_init_71 : decode b_P_init 71 = .ok (.putfield 41, 3) := by decide +kernel
theorem d_P_init_74 : decode b_P_init 74 = .ok (.return_, 1) := by decide +kernel
theorem d_P_lastPlacesFrom_0 : decode b_P_lastPlacesFrom 0 = .ok (.iconst 0, 1) := by decide +kernel
theorem d_P_lastPlacesFrom_1 : decode b_P_lastPlacesFrom 1 = .ok (.istore_n 2, 1) := by decide +kernel
theorem d_P_lastPlacesFrom_2 : decode b_P_lastPlacesFrom 2 = .ok (.aload_n 0, 1) := by decide +kernel
theorem d_P_lastPlacesFrom_3 : decode b_P_lastPlacesFrom 3 = .ok (.getfield 28, 3) := by decide +kernel
theorem d_P_lastPlacesFrom_6 : decode b_P_lastPlacesFrom 6 = .ok (.istore_n 3, 1) := by decide +kernel
theorem d_P_lastPlacesFrom_7 : decode b_P_lastPlacesFrom 7 = .ok (.iload_n 3, 1) := by decide +kernel
theorem d_P_lastPlacesFrom_8 : decode b_P_lastPlacesFrom 8 = .ok (.ifCond .lt 22, 3) := by decide +kernel
theorem d_P_lastPlacesFrom_11 : decode b_P_lastPlacesFrom 11 = .ok (.aload_n 0, 1) := by decide +kernel
theorem d_P_lastPlacesFrom_12 : decode b_P_lastPlacesFrom 12 = .ok (.getfield 25, 3) := by decide +kernel
theorem d_P_lastPlacesFrom_15 : decode b_P_lastPlacesFrom 15 = .ok (.iload_n 3, 1) := by decide +kernel
theorem d_P_lastPlacesFrom_16 : decode b_P_lastPlacesFrom 16 = .ok (.iaload, 1) := by decide +kernel
theorem d_P_lastPlacesFrom_17 : decode b_P_lastPlacesFrom 17 = .ok (.iload_n 1, 1) := by decide +kernel
theorem d_P_lastPlacesFrom_18 : decode b_P_lastPlacesFrom 18 = .ok (.if_icmp .lt 12, 3) := by decide +kernel
theorem d_P_lastPlacesFrom_21 : decode b_P_lastPlacesFrom 21 = .ok (.iinc 2 1, 3) := by decide +kernel
theorem d_P_lastPlacesFrom_24 : decode b_P_lastPlacesFrom 24 = .ok (.iinc 3 (-1), 3) := by decide +kernel
theorem d_P_lastPlacesFrom_27 : decode b_P_lastPlacesFrom 27 = .ok (.goto (-20), 3) := by decide +kernel
theorem d_P_lastPlacesFrom_30 : decode b_P_lastPlacesFrom 30 = .ok (.iload_n 2, 1) := by decide +kernel
theorem d_P_lastPlacesFrom_31 : decode b_P_lastPlacesFrom 31 = .ok (.ireturn, 1) := by decide +kernel
theorem d_P_sumOfSquares_0 : decode b_P_sumOfSquares 0 = .ok (.lconst 0, 1) := by decide +kernel
theorem d_P_sumOfSquares_1 : decode b_P_sumOfSquares 1 = .ok (.lstore_n 2, 1) := by decide +kernel
theorem d_P_sumOfSquares_2 : decode b_P_sumOfSquares 2 = .ok (.iconst 1, 1) := by decide +kernel
theorem d_P_sumOfSquares_3 : decode b_P_sumOfSquares 3 = .ok (.istore 4, 2) := by decide +kernel
theorem d_P_sumOfSquares_5 : decode b_P_sumOfSquares 5 = .ok (.iload 4, 2) := by decide +kernel
theorem d_P_sumOfSquares_7 : decode b_P_sumOfSquares 7 = .ok (.aload_n 0, 1) := by decide +kernel
theorem d_P_sumOfSquares_8 : decode b_P_sumOfSquares 8 = .ok (.getfield 28, 3) := by decide +kernel
theorem d_P_sumOfSquares_11 : decode b_P_sumOfSquares 11 = .ok (.if_icmp .gt 66, 3) := by decide +kernel
theorem d_P_sumOfSquares_14 : decode b_P_sumOfSquares 14 = .ok (.iload_n 1, 1) := by decide +kernel
theorem d_P_sumOfSquares_15 : decode b_P_sumOfSquares 15 = .ok (.ifCond .eq 26, 3) := by decide +kernel
theorem d_P_sumOfSquares_18 : decode b_P_sumOfSquares 18 = .ok (.aload_n 0, 1) := by decide +kernel
theorem d_P_sumOfSquares_19 : decode b_P_sumOfSquares 19 = .ok (.getfield 25, 3) := by decide +kernel
theorem d_P_sumOfSquares_22 : decode b_P_sumOfSquares 22 = .ok (.iload 4, 2) := by decide +kernel
theorem d_P_sumOfSquares_24 : decode b_P_sumOfSquares 24 = .ok (.iconst 1, 1) := by decide +kernel
theorem d_P_sumOfSquares_25 : decode b_P_sumOfSquares 25 = .ok (.isub, 1) := by decide +kernel
theorem d_P_sumOfSquares_26 : decode b_P_sumOfSquares 26 = .ok (.iaload, 1) := by decide +kernel
theorem d_P_sumOfSquares_27 : decode b_P_sumOfSquares 27 = .ok (.aload_n 0, 1) := by decide +kernel
theorem d_P_sumOfSquares_28 : decode b_P_sumOfSquares 28 = .ok (.getfield 25, 3) := by decide +kernel
theorem d_P_sumOfSquares_31 : decode b_P_sumOfSquares 31 = .ok (.iload 4, 2) := by decide +kernel
theorem d_P_sumOfSquares_33 : decode b_P_sumOfSquares 33 = .ok (.iaload, 1) := by decide +kernel
theorem d_P_sumOfSquares_34 : decode b_P_sumOfSquares 34 = .ok (.invokestatic 35, 3) := by decide +kernel
theorem d_P_sumOfSquares_37 : decode b_P_sumOfSquares 37 = .ok (.i2l, 1) := by decide +kernel
theorem d_P_sumOfSquares_38 : decode b_P_sumOfSquares 38 = .ok (.goto 23, 3) := by decide +kernel
theorem d_P_sumOfSquares_41 : decode b_P_sumOfSquares 41 = .ok (.aload_n 0, 1) := by decide +kernel
theorem d_P_sumOfSquares_42 : decode b_P_sumOfSquares 42 = .ok (.getfield 25, 3) := by decide +kernel
theorem d_P_sumOfSquares_45 : decode b_P_sumOfSquares 45 = .ok (.iload 4, 2) := by decide +kernel
theorem d_P_sumOfSquares_47 : decode b_P_sumOfSquares 47 = .ok (.iconst 1, 1) := by decide +kernel
theorem d_P_sumOfSquares_48 : decode b_P_sumOfSquares 48 = .ok (.isub, 1) := by decide +kernel
theorem d_P_sumOfSquares_49 : decode b_P_sumOfSquares 49 = .ok (.iaload, 1) := by decide +kernel
theorem d_P_sumOfSquares_50 : decode b_P_sumOfSquares 50 = .ok (.aload_n 0, 1) := by decide +kernel
theorem d_P_sumOfSquares_51 : decode b_P_sumOfSquares 51 = .ok (.getfield 25, 3) := by decide +kernel
theorem d_P_sumOfSquares_54 : decode b_P_sumOfSquares 54 = .ok (.iload 4, 2) := by decide +kernel
theorem d_P_sumOfSquares_56 : decode b_P_sumOfSquares 56 = .ok (.iaload, 1) := by decide +kernel
theorem d_P_sumOfSquares_57 : decode b_P_sumOfSquares 57 = .ok (.invokestatic 44, 3) := by decide +kernel
theorem d_P_sumOfSquares_60 : decode b_P_sumOfSquares 60 = .ok (.i2l, 1) := by decide +kernel
theorem d_P_sumOfSquares_61 : decode b_P_sumOfSquares 61 = .ok (.lstore 5, 2) := by decide +kernel
theorem d_P_sumOfSquares_63 : decode b_P_sumOfSquares 63 = .ok (.lload_n 2, 1) := by decide +kernel
theorem d_P_sumOfSquares_64 : decode b_P_sumOfSquares 64 = .ok (.lload 5, 2) := by decide +kernel
theorem d_P_sumOfSquares_66 : decode b_P_sumOfSquares 66 = .ok (.lload 5, 2) := by decide +kernel
theorem d_P_sumOfSquares_68 : decode b_P_sumOfSquares 68 = .ok (.lmul, 1) := by decide +kernel
theorem d_P_sumOfSquares_69 : decode b_P_sumOfSquares 69 = .ok (.ladd, 1) := by decide +kernel
theorem d_P_sumOfSquares_70 : decode b_P_sumOfSquares 70 = .ok (.lstore_n 2, 1) := by decide +kernel
theorem d_P_sumOfSquares_71 : decode b_P_sumOfSquares 71 = .ok (.iinc 4 1, 3) := by decide +kernel
theorem d_P_sumOfSquares_74 : decode b_P_sumOfSquares 74 = .ok (.goto (-69), 3) := by decide +kernel
theorem d_P_sumOfSquares_77 : decode b_P_sumOfSquares 77 = .ok (.lload_n 2, 1) := by decide +kernel
theorem d_P_sumOfSquares_78 : decode b_P_sumOfSquares 78 = .ok (.lreturn, 1) := by decide +kernel
theorem d_R_init_0 : decode b_R_init 0 = .ok (.aload_n 0, 1) := by decide +kernel
theorem d_R_init_1 : decode b_R_init 1 = .ok (.invokespecial 3, 3) := by decide +kernel
theorem d_R_init_4 : decode b_R_init 4 = .ok (.aload_n 1, 1) := by decide +kernel
theorem d_R_init_5 : decode b_R_init 5 = .ok (.arraylength, 1) := by decide +kernel
theorem d_R_init_6 : decode b_R_init 6 = .ok (.newarray .int, 2) := by decide +kernel
theorem d_R_init_8 : decode b_R_init 8 = .ok (.astore_n 3, 1) := by decide +kernel
theorem d_R_init_9 : decode b_R_init 9 = .ok (.iconst 0, 1) := by decide +kernel
theorem d_R_init_10 : decode b_R_init 10 = .ok (.istore 4, 2) := by decide +kernel
theorem d_R_init_12 : decode b_R_init 12 = .ok (.iload 4, 2) := by decide +kernel
theorem d_R_init_14 : decode b_R_init 14 = .ok (.aload_n 1, 1) := by decide +kernel
theorem d_R_init_15 : decode b_R_init 15 = .ok (.arraylength, 1) := by decide +kernel
theorem d_R_init_16 : decode b_R_init 16 = .ok (.if_icmp .ge 20, 3) := by decide +kernel
theorem d_R_init_19 : decode b_R_init 19 = .ok (.aload_n 3, 1) := by decide +kernel
theorem d_R_init_20 : decode b_R_init 20 = .ok (.iload 4, 2) := by decide +kernel
theorem d_R_init_22 : decode b_R_init 22 = .ok (.aload_n 1, 1) := by decide +kernel
theorem d_R_init_23 : decode b_R_init 23 = .ok (.aload_n 2, 1) := by decide +kernel
theorem d_R_init_24 : decode b_R_init 24 = .ok (.iload 4, 2) := by decide +kernel
theorem d_R_init_26 : decode b_R_init 26 = .ok (.invokestatic 9, 3) := by decide +kernel
theorem d_R_init_29 : decode b_R_init 29 = .ok (.iastore, 1) := by decide +kernel
theorem d_R_init_30 : decode b_R_init 30 = .ok (.iinc 4 1, 3) := by decide +kernel
theorem d_R_init_33 : decode b_R_init 33 = .ok (.goto (-21), 3) := by decide +kernel
theorem d_R_init_36 : decode b_R_init 36 = .ok (.aload_n 0, 1) := by decide +kernel
theorem d_R_init_37 : decode b_R_init 37 = .ok (.aload_n 1, 1) := by decide +kernel
theorem d_R_init_38 : decode b_R_init 38 = .ok (.arraylength, 1) := by decide +kernel
theorem d_R_init_39 : decode b_R_init 39 = .ok (.newarray .int, 2) := by decide +kernel
theorem d_R_init_41 : decode b_R_init 41 = .ok (.putfield 15, 3) := by decide +kernel
theorem d_R_init_44 : decode b_R_init 44 = .ok (.iconst 0, 1) := by decide +kernel
theorem d_R_init_45 : decode b_R_init 45 = .ok (.istore 4, 2) := by decide +kernel
theorem d_R_init_47 : decode b_R_init 47 = .ok (.iload 4, 2) := by decide +kernel
theorem d_R_init_49 : decode b_R_init 49 = .ok (.aload_n 1, 1) := by decide +kernel
theorem d_R_init_50 : decode b_R_init 50 = .ok (.arraylength, 1) := by decide +kernel
theorem d_R_init_51 : decode b_R_init 51 = .ok (.if_icmp .ge 23, 3) := by decide +kernel
theorem d_R_init_54 : decode b_R_init 54 = .ok (.aload_n 0, 1) := by decide +kernel
theorem d_R_init_55 : decode b_R_init 55 = .ok (.getfield 15, 3) := by decide +kernel
theorem d_R_init_58 : decode b_R_init 58 = .ok (.iload 4, 2) := by decide +kernel
theorem d_R_init_60 : decode b_R_init 60 = .ok (.aload_n 3, 1) := by decide +kernel
theorem d_R_init_61 : decode b_R_init 61 = .ok (.aload_n 2, 1) := by decide +kernel
theorem d_R_init_62 : decode b_R_init 62 = .ok (.iload 4, 2) := by decide +kernel
theorem d_R_init_64 : decode b_R_init 64 = .ok (.invokestatic 19, 3) := by decide +kernel
theorem d_R_init_67 : decode b_R_init 67 = .ok (.iastore, 1) := by decide +kernel
theorem d_R_init_68 : decode b_R_init 68 = .ok (.iinc 4 1, 3) := by decide +kernel
theorem d_R_init_71 : decode b_R_init 71 = .ok (.goto (-24), 3) := by decide +kernel
theorem d_R_init_74 : decode b_R_init 74 = .ok (.return_, 1) := by decide +kernel
theorem d_R_liftAt_0 : decode b_R_liftAt 0 = .ok (.aload_n 1, 1) := by decide +kernel
theorem d_R_liftAt_1 : decode b_R_liftAt 1 = .ok (.arraylength, 1) := by decide +kernel
theorem d_R_liftAt_2 : decode b_R_liftAt 2 = .ok (.iconst 1, 1) := by decide +kernel
theorem d_R_liftAt_3 : decode b_R_liftAt 3 = .ok (.isub, 1) := by decide +kernel
theorem d_R_liftAt_4 : decode b_R_liftAt 4 = .ok (.istore_n 3, 1) := by decide +kernel
theorem d_R_liftAt_5 : decode b_R_liftAt 5 = .ok (.iload_n 2, 1) := by decide +kernel
theorem d_R_liftAt_6 : decode b_R_liftAt 6 = .ok (.iload_n 3, 1) := by decide +kernel
theorem d_R_liftAt_7 : decode b_R_liftAt 7 = .ok (.iadd, 1) := by decide +kernel
theorem d_R_liftAt_8 : decode b_R_liftAt 8 = .ok (.aload_n 0, 1) := by decide +kernel
theorem d_R_liftAt_9 : decode b_R_liftAt 9 = .ok (.arraylength, 1) := by decide +kernel
theorem d_R_liftAt_10 : decode b_R_liftAt 10 = .ok (.iconst 1, 1) := by decide +kernel
theorem d_R_liftAt_11 : decode b_R_liftAt 11 = .ok (.isub, 1) := by decide +kernel
theorem d_R_liftAt_12 : decode b_R_liftAt 12 = .ok (.invokestatic 22, 3) := by decide +kernel
theorem d_R_liftAt_15 : decode b_R_liftAt 15 = .ok (.istore 4, 2) := by decide +kernel
theorem d_R_liftAt_17 : decode b_R_liftAt 17 = .ok (.iconst 0, 1) := by decide +kernel
theorem d_R_liftAt_18 : decode b_R_liftAt 18 = .ok (.istore 5, 2) := by decide +kernel
theorem d_R_liftAt_20 : decode b_R_liftAt 20 = .ok (.iload_n 2, 1) := by decide +kernel
theorem d_R_liftAt_21 : decode b_R_liftAt 21 = .ok (.iload_n 3, 1) := by decide +kernel
theorem d_R_liftAt_22 : decode b_R_liftAt 22 = .ok (.isub, 1) := by decide +kernel
theorem d_R_liftAt_23 : decode b_R_liftAt 23 = .ok (.iconst 0, 1) := by decide +kernel
theorem d_R_liftAt_24 : decode b_R_liftAt 24 = .ok (.invokestatic 28, 3) := by decide +kernel
theorem d_R_liftAt_27 : decode b_R_liftAt 27 = .ok (.istore 6, 2) := by decide +kernel
theorem d_R_liftAt_29 : decode b_R_liftAt 29 = .ok (.iload 6, 2) := by decide +kernel
theorem d_R_liftAt_31 : decode b_R_liftAt 31 = .ok (.iload 4, 2) := by decide +kernel
theorem d_R_liftAt_33 : decode b_R_liftAt 33 = .ok (.if_icmp .gt 30, 3) := by decide +kernel
theorem d_R_liftAt_36 : decode b_R_liftAt 36 = .ok (.iload 5, 2) := by decide +kernel
theorem d_R_liftAt_38 : decode b_R_liftAt 38 = .ok (.aload_n 0, 1) := by decide +kernel
theorem d_R_liftAt_39 : decode b_R_liftAt 39 = .ok (.iload 6, 2) := by decide +kernel
theorem d_R_liftAt_41 : decode b_R_liftAt 41 = .ok (.iaload, 1) := by decide +kernel
theorem d_R_liftAt_42 : decode b_R_liftAt 42 = .ok (.aload_n 1, 1) := by decide +kernel
theorem d_R_liftAt_43 : decode b_R_liftAt 43 = .ok (.iload 6, 2) := by decide +kernel
theorem d_R_liftAt_45 : decode b_R_liftAt 45 = .ok (.iload_n 2, 1) := by decide +kernel
theorem d_R_liftAt_46 : decode b_R_liftAt 46 = .ok (.isub, 1) := by decide +kernel
theorem d_R_liftAt_47 : decode b_R_liftAt 47 = .ok (.invokestatic 31, 3) := by decide +kernel
theorem d_R_liftAt_50 : decode b_R_liftAt 50 = .ok (.iaload, 1) := by decide +kernel
theorem d_R_liftAt_51 : decode b_R_liftAt 51 = .ok (.iadd, 1) := by decide +kernel
theorem d_R_liftAt_52 : decode b_R_liftAt 52 = .ok (.invokestatic 28, 3) := by decide +kernel
theorem d_R_liftAt_55 : decode b_R_liftAt 55 = .ok (.istore 5, 2) := by decide +kernel
theorem d_R_liftAt_57 : decode b_R_liftAt 57 = .ok (.iinc 6 1, 3) := by decide +kernel
theorem d_R_liftAt_60 : decode b_R_liftAt 60 = .ok (.goto (-31), 3) := by decide +kernel
theorem d_R_liftAt_63 : decode b_R_liftAt 63 = .ok (.iload 5, 2) := by decide +kernel
theorem d_R_liftAt_65 : decode b_R_liftAt 65 = .ok (.ireturn, 1) := by decide +kernel
theorem d_R_lowAt_0 : decode b_R_lowAt 0 = .ok (.aload_n 1, 1) := by decide +kernel
theorem d_R_lowAt_1 : decode b_R_lowAt 1 = .ok (.arraylength, 1) := by decide +kernel
theorem d_R_lowAt_2 : decode b_R_lowAt 2 = .ok (.iconst 1, 1) := by decide +kernel
theorem d_R_lowAt_3 : decode b_R_lowAt 3 = .ok (.isub, 1) := by decide +kernel
theorem d_R_lowAt_4 : decode b_R_lowAt 4 = .ok (.istore_n 3, 1) := by decide +kernel
theorem d_R_lowAt_5 : decode b_R_lowAt 5 = .ok (.iload_n 2, 1) := by decide +kernel
theorem d_R_lowAt_6 : decode b_R_lowAt 6 = .ok (.iload_n 3, 1) := by decide +kernel
theorem d_R_lowAt_7 : decode b_R_lowAt 7 = .ok (.iadd, 1) := by decide +kernel
theorem d_R_lowAt_8 : decode b_R_lowAt 8 = .ok (.aload_n 0, 1) := by decide +kernel
theorem d_R_lowAt_9 : decode b_R_lowAt 9 = .ok (.arraylength, 1) := by decide +kernel
theorem d_R_lowAt_10 : decode b_R_lowAt 10 = .ok (.iconst 1, 1) := by decide +kernel
theorem d_R_lowAt_11 : decode b_R_lowAt 11 = .ok (.isub, 1) := by decide +kernel
theorem d_R_lowAt_12 : decode b_R_lowAt 12 = .ok (.invokestatic 22, 3) := by decide +kernel
theorem d_R_lowAt_15 : decode b_R_lowAt 15 = .ok (.istore 4, 2) := by decide +kernel
theorem d_R_lowAt_17 : decode b_R_lowAt 17 = .ok (.sipush 512, 3) := by decide +kernel
theorem d_R_lowAt_20 : decode b_R_lowAt 20 = .ok (.istore 5, 2) := by decide +kernel
theorem d_R_lowAt_22 : decode b_R_lowAt 22 = .ok (.iload_n 2, 1) := by decide +kernel
theorem d_R_lowAt_23 : decode b_R_lowAt 23 = .ok (.iload_n 3, 1) := by decide +kernel
theorem d_R_lowAt_24 : decode b_R_lowAt 24 = .ok (.isub, 1) := by decide +kernel
theorem d_R_lowAt_25 : decode b_R_lowAt 25 = .ok (.iconst 0, 1) := by decide +kernel
theorem d_R_lowAt_26 : decode b_R_lowAt 26 = .ok (.invokestatic 28, 3) := by decide +kernel
theorem d_R_lowAt_29 : decode b_R_lowAt 29 = .ok (.istore 6, 2) := by decide +kernel
theorem d_R_lowAt_31 : decode b_R_lowAt 31 = .ok (.iload 6, 2) := by decide +kernel
theorem d_R_lowAt_33 : decode b_R_lowAt 33 = .ok (.iload 4, 2) := by decide +kernel
theorem d_R_lowAt_35 : decode b_R_lowAt 35 = .ok (.if_icmp .gt 30, 3) := by decide +kernel
theorem d_R_lowAt_38 : decode b_R_lowAt 38 = .ok (.iload 5, 2) := by decide +kernel
theorem d_R_lowAt_40 : decode b_R_lowAt 40 = .ok (.aload_n 0, 1) := by decide +kernel
theorem d_R_lowAt_41 : decode b_R_lowAt 41 = .ok (.iload 6, 2) := by decide +kernel
theorem d_R_lowAt_43 : decode b_R_lowAt 43 = .ok (.iaload, 1) := by decide +kernel
theorem d_R_lowAt_44 : decode b_R_lowAt 44 = .ok (.aload_n 1, 1) := by decide +kernel
theorem d_R_lowAt_45 : decode b_R_lowAt 45 = .ok (.iload 6, 2) := by decide +kernel
theorem d_R_lowAt_47 : decode b_R_lowAt 47 = .ok (.iload_n 2, 1) := by decide +kernel
theorem d_R_lowAt_48 : decode b_R_lowAt 48 = .ok (.isub, 1) := by decide +kernel
theorem d_R_lowAt_49 : decode b_R_lowAt 49 = .ok (.invokestatic 31, 3) := by decide +kernel
theorem d_R_lowAt_52 : decode b_R_lowAt 52 = .ok (.iaload, 1) := by decide +kernel
theorem d_R_lowAt_53 : decode b_R_lowAt 53 = .ok (.isub, 1) := by decide +kernel
theorem d_R_lowAt_54 : decode b_R_lowAt 54 = .ok (.invokestatic 22, 3) := by decide +kernel
theorem d_R_lowAt_57 : decode b_R_lowAt 57 = .ok (.istore 5, 2) := by decide +kernel
theorem d_R_lowAt_59 : decode b_R_lowAt 59 = .ok (.iinc 6 1, 3) := by decide +kernel
theorem d_R_lowAt_62 : decode b_R_lowAt 62 = .ok (.goto (-31), 3) := by decide +kernel
theorem d_R_lowAt_65 : decode b_R_lowAt 65 = .ok (.iload 5, 2) := by decide +kernel
theorem d_R_lowAt_67 : decode b_R_lowAt 67 = .ok (.ireturn, 1) := by decide +kernel
theorem d_R_passCount_0 : decode b_R_passCount 0 = .ok (.iload_n 1, 1) := by decide +kernel
theorem d_R_passCount_1 : decode b_R_passCount 1 = .ok (.istore 4, 2) := by decide +kernel
theorem d_R_passCount_3 : decode b_R_passCount 3 = .ok (.iconst 0, 1) := by decide +kernel
theorem d_R_passCount_4 : decode b_R_passCount 4 = .ok (.istore 5, 2) := by decide +kernel
theorem d_R_passCount_6 : decode b_R_passCount 6 = .ok (.iload 5, 2) := by decide +kernel
theorem d_R_passCount_8 : decode b_R_passCount 8 = .ok (.aload_n 0, 1) := by decide +kernel
theorem d_R_passCount_9 : decode b_R_passCount 9 = .ok (.getfield 15, 3) := by decide +kernel
theorem d_R_passCount_12 : decode b_R_passCount 12 = .ok (.arraylength, 1) := by decide +kernel
theorem d_R_passCount_13 : decode b_R_passCount 13 = .ok (.if_icmp .ge 24, 3) := by decide +kernel
theorem d_R_passCount_16 : decode b_R_passCount 16 = .ok (.iload 4, 2) := by decide +kernel
theorem d_R_passCount_18 : decode b_R_passCount 18 = .ok (.aload_n 0, 1) := by decide +kernel
theorem d_R_passCount_19 : decode b_R_passCount 19 = .ok (.iload 5, 2) := by decide +kernel
theorem d_R_passCount_21 : decode b_R_passCount 21 = .ok (.iload_n 1, 1) := by decide +kernel
theorem d_R_passCount_22 : decode b_R_passCount 22 = .ok (.iload_n 3, 1) := by decide +kernel
theorem d_R_passCount_23 : decode b_R_passCount 23 = .ok (.invokevirtual 35, 3) := by decide +kernel
theorem d_R_passCount_26 : decode b_R_passCount 26 = .ok (.invokestatic 22, 3) := by decide +kernel
theorem d_R_passCount_29 : decode b_R_passCount 29 = .ok (.istore 4, 2) := by decide +kernel
theorem d_R_passCount_31 : decode b_R_passCount 31 = .ok (.iinc 5 1, 3) := by decide +kernel
theorem d_R_passCount_34 : decode b_R_passCount 34 = .ok (.goto (-28), 3) := by decide +kernel
theorem d_R_passCount_37 : decode b_R_passCount 37 = .ok (.iload_n 1, 1) := by decide +kernel
theorem d_R_passCount_38 : decode b_R_passCount 38 = .ok (.iload 4, 2) := by decide +kernel
theorem d_R_passCount_40 : decode b_R_passCount 40 = .ok (.isub, 1) := by decide +kernel
theorem d_R_passCount_41 : decode b_R_passCount 41 = .ok (.iload_n 2, 1) := by decide +kernel
theorem d_R_passCount_42 : decode b_R_passCount 42 = .ok (.iadd, 1) := by decide +kernel
theorem d_R_passCount_43 : decode b_R_passCount 43 = .ok (.iconst 1, 1) := by decide +kernel
theorem d_R_passCount_44 : decode b_R_passCount 44 = .ok (.isub, 1) := by decide +kernel
theorem d_R_passCount_45 : decode b_R_passCount 45 = .ok (.iload_n 2, 1) := by decide +kernel
theorem d_R_passCount_46 : decode b_R_passCount 46 = .ok (.idiv, 1) := by decide +kernel
theorem d_R_passCount_47 : decode b_R_passCount 47 = .ok (.ireturn, 1) := by decide +kernel
theorem d_R_placesAbove_0 : decode b_R_placesAbove 0 = .ok (.iconst 0, 1) := by decide +kernel
theorem d_R_placesAbove_1 : decode b_R_placesAbove 1 = .ok (.istore_n 2, 1) := by decide +kernel
theorem d_R_placesAbove_2 : decode b_R_placesAbove 2 = .ok (.iconst 0, 1) := by decide +kernel
theorem d_R_placesAbove_3 : decode b_R_placesAbove 3 = .ok (.istore_n 3, 1) := by decide +kernel
theorem d_R_placesAbove_4 : decode b_R_placesAbove 4 = .ok (.iload_n 3, 1) := by decide +kernel
theorem d_R_placesAbove_5 : decode b_R_placesAbove 5 = .ok (.aload_n 0, 1) := by decide +kernel
theorem d_R_placesAbove_6 : decode b_R_placesAbove 6 = .ok (.getfield 15, 3) := by decide +kernel
theorem d_R_placesAbove_9 : decode b_R_placesAbove 9 = .ok (.arraylength, 1) := by decide +kernel
theorem d_R_placesAbove_10 : decode b_R_placesAbove 10 = .ok (.if_icmp .ge 30, 3) := by decide +kernel
theorem d_R_placesAbove_13 : decode b_R_placesAbove 13 = .ok (.iload_n 3, 1) := by decide +kernel
theorem d_R_placesAbove_14 : decode b_R_placesAbove 14 = .ok (.aload_n 1, 1) := by decide +kernel
theorem d_R_placesAbove_15 : decode b_R_placesAbove 15 = .ok (.arraylength, 1) := by decide +kernel
theorem d_R_placesAbove_16 : decode b_R_placesAbove 16 = .ok (.if_icmp .ge 24, 3) := by decide +kernel
theorem d_R_placesAbove_19 : decode b_R_placesAbove 19 = .ok (.aload_n 0, 1) := by decide +kernel
theorem d_R_placesAbove_20 : decode b_R_placesAbove 20 = .ok (.getfield 15, 3) := by decide +kernel
theorem d_R_placesAbove_23 : decode b_R_placesAbove 23 = .ok (.iload_n 3, 1) := by decide +kernel
theorem d_R_placesAbove_24 : decode b_R_placesAbove 24 = .ok (.iaload, 1) := by decide +kernel
theorem d_R_placesAbove_25 : decode b_R_placesAbove 25 = .ok (.aload_n 1, 1) := by decide +kernel
theorem d_R_placesAbove_26 : decode b_R_placesAbove 26 = .ok (.iload_n 3, 1) := by decide +kernel
theorem d_R_placesAbove_27 : decode b_R_placesAbove 27 = .ok (.iaload, 1) := by decide +kernel
theorem d_R_placesAbove_28 : decode b_R_placesAbove 28 = .ok (.if_icmp .le 6, 3) := by decide +kernel
theorem d_R_placesAbove_31 : decode b_R_placesAbove 31 = .ok (.iinc 2 1, 3) := by decide +kernel
theorem d_R_placesAbove_34 : decode b_R_placesAbove 34 = .ok (.iinc 3 1, 3) := by decide +kernel
theorem d_R_placesAbove_37 : decode b_R_placesAbove 37 = .ok (.goto (-33), 3) := by decide +kernel
theorem d_R_placesAbove_40 : decode b_R_placesAbove 40 = .ok (.iload_n 2, 1) := by decide +kernel
theorem d_R_placesAbove_41 : decode b_R_placesAbove 41 = .ok (.ireturn, 1) := by decide +kernel
theorem d_R_placesCut_0 : decode b_R_placesCut 0 = .ok (.iconst 0, 1) := by decide +kernel
theorem d_R_placesCut_1 : decode b_R_placesCut 1 = .ok (.istore 5, 2) := by decide +kernel
theorem d_R_placesCut_3 : decode b_R_placesCut 3 = .ok (.iconst 0, 1) := by decide +kernel
theorem d_R_placesCut_4 : decode b_R_placesCut 4 = .ok (.istore 6, 2) := by decide +kernel
theorem d_R_placesCut_6 : decode b_R_placesCut 6 = .ok (.iload 6, 2) := by decide +kernel
theorem d_R_placesCut_8 : decode b_R_placesCut 8 = .ok (.aload_n 0, 1) := by decide +kernel
theorem d_R_placesCut_9 : decode b_R_placesCut 9 = .ok (.getfield 15, 3) := by decide +kernel
theorem d_R_placesCut_12 : decode b_R_placesCut 12 = .ok (.arraylength, 1) := by decide +kernel
theorem d_R_placesCut_13 : decode b_R_placesCut 13 = .ok (.if_icmp .ge 26, 3) := by decide +kernel
theorem d_R_placesCut_16 : decode b_R_placesCut 16 = .ok (.aload_n 0, 1) := by decide +kernel
theorem d_R_placesCut_17 : decode b_R_placesCut 17 = .ok (.iload 6, 2) := by decide +kernel
theorem d_R_placesCut_19 : decode b_R_placesCut 19 = .ok (.iload_n 1, 1) := by decide +kernel
theorem d_R_placesCut_20 : decode b_R_placesCut 20 = .ok (.iload_n 2, 1) := by decide +kernel
theorem d_R_placesCut_21 : decode b_R_placesCut 21 = .ok (.invokevirtual 35, 3) := by decide +kernel
theorem d_R_placesCut_24 : decode b_R_placesCut 24 = .ok (.i2l, 1) := by decide +kernel
theorem d_R_placesCut_25 : decode b_R_placesCut 25 = .ok (.lload_n 3, 1) := by decide +kernel
theorem d_R_placesCut_26 : decode b_R_placesCut 26 = .ok (.lcmp, 1) := by decide +kernel
theorem d_R_placesCut_27 : decode b_R_placesCut 27 = .ok (.ifCond .ge 6, 3) := by decide +kernel
theorem d_R_placesCut_30 : decode b_R_placesCut 30 = .ok (.iinc 5 1, 3) := by decide +kernel
theorem d_R_placesCut_33 : decode b_R_placesCut 33 = .ok (.iinc 6 1, 3) := by decide +kernel
theorem d_R_placesCut_36 : decode b_R_placesCut 36 = .ok (.goto (-30), 3) := by decide +kernel
theorem d_R_placesCut_39 : decode b_R_placesCut 39 = .ok (.iload 5, 2) := by decide +kernel
theorem d_R_placesCut_41 : decode b_R_placesCut 41 = .ok (.ireturn, 1) := by decide +kernel
theorem d_R_wantedAt_0 : decode b_R_wantedAt 0 = .ok (.aload_n 0, 1) := by decide +kernel
theorem d_R_wantedAt_1 : decode b_R_wantedAt 1 = .ok (.getfield 15, 3) := by decide +kernel
theorem d_R_wantedAt_4 : decode b_R_wantedAt 4 = .ok (.iload_n 1, 1) := by decide +kernel
theorem d_R_wantedAt_5 : decode b_R_wantedAt 5 = .ok (.iaload, 1) := by decide +kernel
theorem d_R_wantedAt_6 : decode b_R_wantedAt 6 = .ok (.iload_n 3, 1) := by decide +kernel
theorem d_R_wantedAt_7 : decode b_R_wantedAt 7 = .ok (.iadd, 1) := by decide +kernel
theorem d_R_wantedAt_8 : decode b_R_wantedAt 8 = .ok (.iload_n 2, 1) := by decide +kernel
theorem d_R_wantedAt_9 : decode b_R_wantedAt 9 = .ok (.invokestatic 22, 3) := by decide +kernel
theorem d_R_wantedAt_12 : decode b_R_wantedAt 12 = .ok (.ireturn, 1) := by decide +kernel
