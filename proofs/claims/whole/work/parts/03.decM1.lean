theorem d_M_about_0 : decode b_M_about 0 = .ok (.aload_n 0, 1) := by decide +kernel
theorem d_M_about_1 : decode b_M_about 1 = .ok (.aload_n 0, 1) := by decide +kernel
theorem d_M_about_2 : decode b_M_about 2 = .ok (.iload_n 1, 1) := by decide +kernel
theorem d_M_about_3 : decode b_M_about 3 = .ok (.invokevirtual 117, 3) := by decide +kernel
theorem d_M_about_6 : decode b_M_about 6 = .ok (.ifCond .eq 19, 3) := by decide +kernel
theorem d_M_about_9 : decode b_M_about 9 = .ok (.iload_n 2, 1) := by decide +kernel
theorem d_M_about_10 : decode b_M_about 10 = .ok (.i2l, 1) := by decide +kernel
theorem d_M_about_11 : decode b_M_about 11 = .ok (.lconst 0, 1) := by decide +kernel
theorem d_M_about_12 : decode b_M_about 12 = .ok (.ldc2_w 125, 3) := by decide +kernel
theorem d_M_about_15 : decode b_M_about 15 = .ok (.invokestatic 64, 3) := by decide +kernel
theorem d_M_about_18 : decode b_M_about 18 = .ok (.ifCond .eq 7, 3) := by decide +kernel
theorem d_M_about_21 : decode b_M_about 21 = .ok (.iconst 0, 1) := by decide +kernel
theorem d_M_about_22 : decode b_M_about 22 = .ok (.goto 4, 3) := by decide +kernel
theorem d_M_about_25 : decode b_M_about 25 = .ok (.iconst 1, 1) := by decide +kernel
theorem d_M_about_26 : decode b_M_about 26 = .ok (.putfield 58, 3) := by decide +kernel
theorem d_M_about_29 : decode b_M_about 29 = .ok (.aload_n 0, 1) := by decide +kernel
theorem d_M_about_30 : decode b_M_about 30 = .ok (.getfield 58, 3) := by decide +kernel
theorem d_M_about_33 : decode b_M_about 33 = .ok (.ifCond .le 7, 3) := by decide +kernel
theorem d_M_about_36 : decode b_M_about 36 = .ok (.iconst 0, 1) := by decide +kernel
theorem d_M_about_37 : decode b_M_about 37 = .ok (.goto 35, 3) := by decide +kernel
theorem d_M_about_40 : decode b_M_about 40 = .ok (.iload_n 2, 1) := by decide +kernel
theorem d_M_about_41 : decode b_M_about 41 = .ok (.ifCond .ne 12, 3) := by decide +kernel
theorem d_M_about_44 : decode b_M_about 44 = .ok (.aload_n 0, 1) := by decide +kernel
theorem d_M_about_45 : decode b_M_about 45 = .ok (.getfield 25, 3) := by decide +kernel
theorem d_M_about_48 : decode b_M_about 48 = .ok (.iload_n 1, 1) := by decide +kernel
theorem d_M_about_49 : decode b_M_about 49 = .ok (.iaload, 1) := by decide +kernel
theorem d_M_about_50 : decode b_M_about 50 = .ok (.goto 22, 3) := by decide +kernel
theorem d_M_about_53 : decode b_M_about 53 = .ok (.iload_n 2, 1) := by decide +kernel
theorem d_M_about_54 : decode b_M_about 54 = .ok (.iconst 1, 1) := by decide +kernel
theorem d_M_about_55 : decode b_M_about 55 = .ok (.if_icmp .ne 11, 3) := by decide +kernel
theorem d_M_about_58 : decode b_M_about 58 = .ok (.aload_n 0, 1) := by decide +kernel
theorem d_M_about_59 : decode b_M_about 59 = .ok (.iload_n 1, 1) := by decide +kernel
theorem d_M_about_60 : decode b_M_about 60 = .ok (.invokevirtual 127, 3) := by decide +kernel
theorem d_M_about_63 : decode b_M_about 63 = .ok (.goto 9, 3) := by decide +kernel
theorem d_M_about_66 : decode b_M_about 66 = .ok (.aload_n 0, 1) := by decide +kernel
theorem d_M_about_67 : decode b_M_about 67 = .ok (.getfield 28, 3) := by decide +kernel
theorem d_M_about_70 : decode b_M_about 70 = .ok (.iload_n 1, 1) := by decide +kernel
theorem d_M_about_71 : decode b_M_about 71 = .ok (.iaload, 1) := by decide +kernel
theorem d_M_about_72 : decode b_M_about 72 = .ok (.ireturn, 1) := by decide +kernel
theorem d_M_add_0 : decode b_M_add 0 = .ok (.aload_n 0, 1) := by decide +kernel
theorem d_M_add_1 : decode b_M_add 1 = .ok (.getfield 7, 3) := by decide +kernel
theorem d_M_add_4 : decode b_M_add 4 = .ok (.aload_n 0, 1) := by decide +kernel
theorem d_M_add_5 : decode b_M_add 5 = .ok (.getfield 75, 3) := by decide +kernel
theorem d_M_add_8 : decode b_M_add 8 = .ok (.iload_n 1, 1) := by decide +kernel
theorem d_M_add_9 : decode b_M_add 9 = .ok (.iastore, 1) := by decide +kernel
theorem d_M_add_10 : decode b_M_add 10 = .ok (.aload_n 0, 1) := by decide +kernel
theorem d_M_add_11 : decode b_M_add 11 = .ok (.getfield 13, 3) := by decide +kernel
theorem d_M_add_14 : decode b_M_add 14 = .ok (.aload_n 0, 1) := by decide +kernel
theorem d_M_add_15 : decode b_M_add 15 = .ok (.getfield 75, 3) := by decide +kernel
theorem d_M_add_18 : decode b_M_add 18 = .ok (.iload_n 2, 1) := by decide +kernel
theorem d_M_add_19 : decode b_M_add 19 = .ok (.iastore, 1) := by decide +kernel
theorem d_M_add_20 : decode b_M_add 20 = .ok (.aload_n 0, 1) := by decide +kernel
theorem d_M_add_21 : decode b_M_add 21 = .ok (.getfield 16, 3) := by decide +kernel
theorem d_M_add_24 : decode b_M_add 24 = .ok (.aload_n 0, 1) := by decide +kernel
theorem d_M_add_25 : decode b_M_add 25 = .ok (.getfield 75, 3) := by decide +kernel
theorem d_M_add_28 : decode b_M_add 28 = .ok (.iload_n 3, 1) := by decide +kernel
theorem d_M_add_29 : decode b_M_add 29 = .ok (.iastore, 1) := by decide +kernel
theorem d_M_add_30 : decode b_M_add 30 = .ok (.aload_n 0, 1) := by decide +kernel
theorem d_M_add_31 : decode b_M_add 31 = .ok (.getfield 19, 3) := by decide +kernel
theorem d_M_add_34 : decode b_M_add 34 = .ok (.aload_n 0, 1) := by decide +kernel
theorem d_M_add_35 : decode b_M_add 35 = .ok (.getfield 75, 3) := by decide +kernel
theorem d_M_add_38 : decode b_M_add 38 = .ok (.iload 4, 2) := by decide +kernel
theorem d_M_add_40 : decode b_M_add 40 = .ok (.iastore, 1) := by decide +kernel
theorem d_M_add_41 : decode b_M_add 41 = .ok (.aload_n 0, 1) := by decide +kernel
theorem d_M_add_42 : decode b_M_add 42 = .ok (.getfield 22, 3) := by decide +kernel
theorem d_M_add_45 : decode b_M_add 45 = .ok (.aload_n 0, 1) := by decide +kernel
theorem d_M_add_46 : decode b_M_add 46 = .ok (.getfield 75, 3) := by decide +kernel
theorem d_M_add_49 : decode b_M_add 49 = .ok (.iload 5, 2) := by decide +kernel
theorem d_M_add_51 : decode b_M_add 51 = .ok (.iastore, 1) := by decide +kernel
theorem d_M_add_52 : decode b_M_add 52 = .ok (.aload_n 0, 1) := by decide +kernel
theorem d_M_add_53 : decode b_M_add 53 = .ok (.dup, 1) := by decide +kernel
theorem d_M_add_54 : decode b_M_add 54 = .ok (.getfield 75, 3) := by decide +kernel
theorem d_M_add_57 : decode b_M_add 57 = .ok (.iconst 1, 1) := by decide +kernel
theorem d_M_add_58 : decode b_M_add 58 = .ok (.iadd, 1) := by decide +kernel
theorem d_M_add_59 : decode b_M_add 59 = .ok (.putfield 75, 3) := by decide +kernel
theorem d_M_add_62 : decode b_M_add 62 = .ok (.return_, 1) := by decide +kernel
theorem d_M_arc_0 : decode b_M_arc 0 = .ok (.aload_n 0, 1) := by decide +kernel
theorem d_M_arc_1 : decode b_M_arc 1 = .ok (.iload_n 1, 1) := by decide +kernel
theorem d_M_arc_2 : decode b_M_arc 2 = .ok (.iload_n 2, 1) := by decide +kernel
theorem d_M_arc_3 : decode b_M_arc 3 = .ok (.invokevirtual 84, 3) := by decide +kernel
theorem d_M_arc_6 : decode b_M_arc 6 = .ok (.aload_n 0, 1) := by decide +kernel
theorem d_M_arc_7 : decode b_M_arc 7 = .ok (.iload_n 3, 1) := by decide +kernel
theorem d_M_arc_8 : decode b_M_arc 8 = .ok (.i2l, 1) := by decide +kernel
theorem d_M_arc_9 : decode b_M_arc 9 = .ok (.ldc2_w 92, 3) := by decide +kernel
theorem d_M_arc_12 : decode b_M_arc 12 = .ok (.ldc2_w 94, 3) := by decide +kernel
theorem d_M_arc_15 : decode b_M_arc 15 = .ok (.invokestatic 64, 3) := by decide +kernel
theorem d_M_arc_18 : decode b_M_arc 18 = .ok (.ifCond .eq 18, 3) := by decide +kernel
theorem d_M_arc_21 : decode b_M_arc 21 = .ok (.iload 4, 2) := by decide +kernel
theorem d_M_arc_23 : decode b_M_arc 23 = .ok (.i2l, 1) := by decide +kernel
theorem d_M_arc_24 : decode b_M_arc 24 = .ok (.ldc2_w 96, 3) := by decide +kernel
theorem d_M_arc_27 : decode b_M_arc 27 = .ok (.ldc2_w 98, 3) := by decide +kernel
theorem d_M_arc_30 : decode b_M_arc 30 = .ok (.invokestatic 64, 3) := by decide +kernel
theorem d_M_arc_33 : decode b_M_arc 33 = .ok (.ifCond .ne 7, 3) := by decide +kernel
theorem d_M_arc_36 : decode b_M_arc 36 = .ok (.iconst 1, 1) := by decide +kernel
theorem d_M_arc_37 : decode b_M_arc 37 = .ok (.goto 7, 3) := by decide +kernel
theorem d_M_arc_40 : decode b_M_arc 40 = .ok (.aload_n 0, 1) := by decide +kernel
theorem d_M_arc_41 : decode b_M_arc 41 = .ok (.getfield 58, 3) := by decide +kernel
theorem d_M_arc_44 : decode b_M_arc 44 = .ok (.putfield 58, 3) := by decide +kernel
theorem d_M_arc_47 : decode b_M_arc 47 = .ok (.aload_n 0, 1) := by decide +kernel
theorem d_M_arc_48 : decode b_M_arc 48 = .ok (.getfield 58, 3) := by decide +kernel
theorem d_M_arc_51 : decode b_M_arc 51 = .ok (.ifCond .le 5, 3) := by decide +kernel
theorem d_M_arc_54 : decode b_M_arc 54 = .ok (.iconst 0, 1) := by decide +kernel
theorem d_M_arc_55 : decode b_M_arc 55 = .ok (.ireturn, 1) := by decide +kernel
theorem d_M_arc_56 : decode b_M_arc 56 = .ok (.aload_n 0, 1) := by decide +kernel
theorem d_M_arc_57 : decode b_M_arc 57 = .ok (.invokevirtual 100, 3) := by decide +kernel
theorem d_M_arc_60 : decode b_M_arc 60 = .ok (.istore 6, 2) := by decide +kernel
theorem d_M_arc_62 : decode b_M_arc 62 = .ok (.iload 5, 2) := by decide +kernel
theorem d_M_arc_64 : decode b_M_arc 64 = .ok (.ifCond .eq 24, 3) := by decide +kernel
theorem d_M_arc_67 : decode b_M_arc 67 = .ok (.iload 6, 2) := by decide +kernel
theorem d_M_arc_69 : decode b_M_arc 69 = .ok (.iload 4, 2) := by decide +kernel
theorem d_M_arc_71 : decode b_M_arc 71 = .ok (.if_icmp .lt 13, 3) := by decide +kernel
theorem d_M_arc_74 : decode b_M_arc 74 = .ok (.iload_n 2, 1) := by decide +kernel
theorem d_M_arc_75 : decode b_M_arc 75 = .ok (.iload 4, 2) := by decide +kernel
theorem d_M_arc_77 : decode b_M_arc 77 = .ok (.if_icmp .lt 7, 3) := by decide +kernel
theorem d_M_arc_80 : decode b_M_arc 80 = .ok (.iconst 1, 1) := by decide +kernel
theorem d_M_arc_81 : decode b_M_arc 81 = .ok (.goto 25, 3) := by decide +kernel
theorem d_M_arc_84 : decode b_M_arc 84 = .ok (.iconst 0, 1) := by decide +kernel
theorem d_M_arc_85 : decode b_M_arc 85 = .ok (.goto 21, 3) := by decide +kernel
theorem d_M_arc_88 : decode b_M_arc 88 = .ok (.iload 6, 2) := by decide +kernel
theorem d_M_arc_90 : decode b_M_arc 90 = .ok (.iload 4, 2) := by decide +kernel
theorem d_M_arc_92 : decode b_M_arc 92 = .ok (.if_icmp .gt 13, 3) := by decide +kernel
theorem d_M_arc_95 : decode b_M_arc 95 = .ok (.iload_n 2, 1) := by decide +kernel
theorem d_M_arc_96 : decode b_M_arc 96 = .ok (.iload 4, 2) := by decide +kernel
theorem d_M_arc_98 : decode b_M_arc 98 = .ok (.if_icmp .gt 7, 3) := by decide +kernel
theorem d_M_arc_101 : decode b_M_arc 101 = .ok (.iconst 1, 1) := by decide +kernel
theorem d_M_arc_102 : decode b_M_arc 102 = .ok (.goto 4, 3) := by decide +kernel
theorem d_M_arc_105 : decode b_M_arc 105 = .ok (.iconst 0, 1) := by decide +kernel
theorem d_M_arc_106 : decode b_M_arc 106 = .ok (.istore 7, 2) := by decide +kernel
theorem d_M_arc_108 : decode b_M_arc 108 = .ok (.iload 7, 2) := by decide +kernel
theorem d_M_arc_110 : decode b_M_arc 110 = .ok (.ifCond .eq 26, 3) := by decide +kernel
theorem d_M_arc_113 : decode b_M_arc 113 = .ok (.aload_n 0, 1) := by decide +kernel
theorem d_M_arc_114 : decode b_M_arc 114 = .ok (.invokevirtual 80, 3) := by decide +kernel
theorem d_M_arc_117 : decode b_M_arc 117 = .ok (.iload 6, 2) := by decide +kernel
theorem d_M_arc_119 : decode b_M_arc 119 = .ok (.iload_n 3, 1) := by decide +kernel
theorem d_M_arc_120 : decode b_M_arc 120 = .ok (.iload 4, 2) := by decide +kernel
theorem d_M_arc_122 : decode b_M_arc 122 = .ok (.invokestatic 103, 3) := by decide +kernel
theorem d_M_arc_125 : decode b_M_arc 125 = .ok (.iload_n 1, 1) := by decide +kernel
theorem d_M_arc_126 : decode b_M_arc 126 = .ok (.iload_n 2, 1) := by decide +kernel
theorem d_M_arc_127 : decode b_M_arc 127 = .ok (.iload_n 3, 1) := by decide +kernel
theorem d_M_arc_128 : decode b_M_arc 128 = .ok (.iload 4, 2) := by decide +kernel
theorem d_M_arc_130 : decode b_M_arc 130 = .ok (.invokestatic 103, 3) := by decide +kernel
theorem d_M_arc_133 : decode b_M_arc 133 = .ok (.if_icmp .eq 5, 3) := by decide +kernel
theorem d_M_arc_136 : decode b_M_arc 136 = .ok (.iconst 0, 1) := by decide +kernel
theorem d_M_arc_137 : decode b_M_arc 137 = .ok (.ireturn, 1) := by decide +kernel
theorem d_M_arc_138 : decode b_M_arc 138 = .ok (.aload_n 0, 1) := by decide +kernel
theorem d_M_arc_139 : decode b_M_arc 139 = .ok (.iload_n 1, 1) := by decide +kernel
theorem d_M_arc_140 : decode b_M_arc 140 = .ok (.iload_n 2, 1) := by decide +kernel
theorem d_M_arc_141 : decode b_M_arc 141 = .ok (.iload 5, 2) := by decide +kernel
theorem d_M_arc_143 : decode b_M_arc 143 = .ok (.ifCond .eq 7, 3) := by decide +kernel
theorem d_M_arc_146 : decode b_M_arc 146 = .ok (.iconst 2, 1) := by decide +kernel
theorem d_M_arc_147 : decode b_M_arc 147 = .ok (.goto 4, 3) := by decide +kernel
theorem d_M_arc_150 : decode b_M_arc 150 = .ok (.iconst 1, 1) := by decide +kernel
theorem d_M_arc_151 : decode b_M_arc 151 = .ok (.iload_n 3, 1) := by decide +kernel
theorem d_M_arc_152 : decode b_M_arc 152 = .ok (.iload 4, 2) := by decide +kernel
theorem d_M_arc_154 : decode b_M_arc 154 = .ok (.invokevirtual 88, 3) := by decide +kernel
theorem d_M_arc_157 : decode b_M_arc 157 = .ok (.iconst 1, 1) := by decide +kernel
theorem d_M_arc_158 : decode b_M_arc 158 = .ok (.ireturn, 1) := by decide +kernel
theorem d_M_blank_0 : decode b_M_blank 0 = .ok (.iconst 0, 1) := by decide +kernel
theorem d_M_blank_1 : decode b_M_blank 1 = .ok (.istore_n 2, 1) := by decide +kernel
theorem d_M_blank_2 : decode b_M_blank 2 = .ok (.iconst 0, 1) := by decide +kernel
theorem d_M_blank_3 : decode b_M_blank 3 = .ok (.istore_n 3, 1) := by decide +kernel
theorem d_M_blank_4 : decode b_M_blank 4 = .ok (.iload_n 3, 1) := by decide +kernel
theorem d_M_blank_5 : decode b_M_blank 5 = .ok (.aload_n 0, 1) := by decide +kernel
theorem d_M_blank_6 : decode b_M_blank 6 = .ok (.getfield 25, 3) := by decide +kernel
theorem d_M_blank_9 : decode b_M_blank 9 = .ok (.iload_n 1, 1) := by decide +kernel
theorem d_M_blank_10 : decode b_M_blank 10 = .ok (.iaload, 1) := by decide +kernel
theorem d_M_blank_11 : decode b_M_blank 11 = .ok (.if_icmp .gt 40, 3) := by decide +kernel
theorem d_M_blank_14 : decode b_M_blank 14 = .ok (.aload_n 0, 1) := by decide +kernel
theorem d_M_blank_15 : decode b_M_blank 15 = .ok (.getfield 31, 3) := by decide +kernel
theorem d_M_blank_18 : decode b_M_blank 18 = .ok (.bipush 65, 2) := by decide +kernel
theorem d_M_blank_20 : decode b_M_blank 20 = .ok (.iload_n 1, 1) := by decide +kernel
theorem d_M_blank_21 : decode b_M_blank 21 = .ok (.imul, 1) := by decide +kernel
theorem d_M_blank_22 : decode b_M_blank 22 = .ok (.iload_n 3, 1) := by decide +kernel
theorem d_M_blank_23 : decode b_M_blank 23 = .ok (.iadd, 1) := by decide +kernel
theorem d_M_blank_24 : decode b_M_blank 24 = .ok (.iaload, 1) := by decide +kernel
theorem d_M_blank_25 : decode b_M_blank 25 = .ok (.iload_n 2, 1) := by decide +kernel
theorem d_M_blank_26 : decode b_M_blank 26 = .ok (.if_icmp .le 17, 3) := by decide +kernel
theorem d_M_blank_29 : decode b_M_blank 29 = .ok (.aload_n 0, 1) := by decide +kernel
theorem d_M_blank_30 : decode b_M_blank 30 = .ok (.getfield 31, 3) := by decide +kernel
theorem d_M_blank_33 : decode b_M_blank 33 = .ok (.bipush 65, 2) := by decide +kernel
theorem d_M_blank_35 : decode b_M_blank 35 = .ok (.iload_n 1, 1) := by decide +kernel
theorem d_M_blank_36 : decode b_M_blank 36 = .ok (.imul, 1) := by decide +kernel
theorem d_M_blank_37 : decode b_M_blank 37 = .ok (.iload_n 3, 1) := by decide +kernel
theorem d_M_blank_38 : decode b_M_blank 38 = .ok (.iadd, 1) := by decide +kernel
theorem d_M_blank_39 : decode b_M_blank 39 = .ok (.iaload, 1) := by decide +kernel
theorem d_M_blank_40 : decode b_M_blank 40 = .ok (.goto 4, 3) := by decide +kernel
theorem d_M_blank_43 : decode b_M_blank 43 = .ok (.iload_n 2, 1) := by decide +kernel
theorem d_M_blank_44 : decode b_M_blank 44 = .ok (.istore_n 2, 1) := by decide +kernel
theorem d_M_blank_45 : decode b_M_blank 45 = .ok (.iinc 3 1, 3) := by decide +kernel
theorem d_M_blank_48 : decode b_M_blank 48 = .ok (.goto (-44), 3) := by decide +kernel
theorem d_M_blank_51 : decode b_M_blank 51 = .ok (.iload_n 2, 1) := by decide +kernel
theorem d_M_blank_52 : decode b_M_blank 52 = .ok (.iconst 3, 1) := by decide +kernel
theorem d_M_blank_53 : decode b_M_blank 53 = .ok (.iadd, 1) := by decide +kernel
theorem d_M_blank_54 : decode b_M_blank 54 = .ok (.ireturn, 1) := by decide +kernel
theorem d_M_closes_0 : decode b_M_closes 0 = .ok (.aload_n 0, 1) := by decide +kernel
theorem d_M_closes_1 : decode b_M_closes 1 = .ok (.iload_n 1, 1) := by decide +kernel
theorem d_M_closes_2 : decode b_M_closes 2 = .ok (.i2l, 1) := by decide +kernel
theorem d_M_closes_3 : decode b_M_closes 3 = .ok (.lconst 0, 1) := by decide +kernel
theorem d_M_closes_4 : decode b_M_closes 4 = .ok (.aload_n 0, 1) := by decide +kernel
theorem d_M_closes_5 : decode b_M_closes 5 = .ok (.getfield 160, 3) := by decide +kernel
theorem d_M_closes_8 : decode b_M_closes 8 = .ok (.iconst 1, 1) := by decide +kernel
theorem d_M_closes_9 : decode b_M_closes 9 = .ok (.isub, 1) := by decide +kernel
theorem d_M_closes_10 : decode b_M_closes 10 = .ok (.i2l, 1) := by decide +kernel
theorem d_M_closes_11 : decode b_M_closes 11 = .ok (.invokestatic 64, 3) := by decide +kernel
theorem d_M_closes_14 : decode b_M_closes 14 = .ok (.ifCond .eq 7, 3) := by decide +kernel
theorem d_M_closes_17 : decode b_M_closes 17 = .ok (.iconst 0, 1) := by decide +kernel
theorem d_M_closes_18 : decode b_M_closes 18 = .ok (.goto 4, 3) := by decide +kernel
theorem d_M_closes_21 : decode b_M_closes 21 = .ok (.iconst 1, 1) := by decide +kernel
theorem d_M_closes_22 : decode b_M_closes 22 = .ok (.putfield 58, 3) := by decide +kernel
theorem d_M_closes_25 : decode b_M_closes 25 = .ok (.aload_n 0, 1) := by decide +kernel
theorem d_M_closes_26 : decode b_M_closes 26 = .ok (.getfield 58, 3) := by decide +kernel
theorem d_M_closes_29 : decode b_M_closes 29 = .ok (.ifCond .ne 17, 3) := by decide +kernel
theorem d_M_closes_32 : decode b_M_closes 32 = .ok (.aload_n 0, 1) := by decide +kernel
theorem d_M_closes_33 : decode b_M_closes 33 = .ok (.iload_n 1, 1) := by decide +kernel
theorem d_M_closes_34 : decode b_M_closes 34 = .ok (.invokevirtual 171, 3) := by decide +kernel
theorem d_M_closes_37 : decode b_M_closes 37 = .ok (.lconst 0, 1) := by decide +kernel
theorem d_M_closes_38 : decode b_M_closes 38 = .ok (.lcmp, 1) := by decide +kernel
theorem d_M_closes_39 : decode b_M_closes 39 = .ok (.ifCond .ne 7, 3) := by decide +kernel
theorem d_M_closes_42 : decode b_M_closes 42 = .ok (.iconst 1, 1) := by decide +kernel
theorem d_M_closes_43 : decode b_M_closes 43 = .ok (.goto 4, 3) := by decide +kernel
theorem d_M_closes_46 : decode b_M_closes 46 = .ok (.iconst 0, 1) := by decide +kernel
theorem d_M_closes_47 : decode b_M_closes 47 = .ok (.ireturn, 1) := by decide +kernel
theorem d_M_copy_0 : decode b_M_copy 0 = .ok (.aload_n 0, 1) := by decide +kernel
theorem d_M_copy_1 : decode b_M_copy 1 = .ok (.aload_n 0, 1) := by decide +kernel
theorem d_M_copy_2 : decode b_M_copy 2 = .ok (.iload_n 1, 1) := by decide +kernel
theorem d_M_copy_3 : decode b_M_copy 3 = .ok (.invokevirtual 117, 3) := by decide +kernel
theorem d_M_copy_6 : decode b_M_copy 6 = .ok (.ifCond .eq 15, 3) := by decide +kernel
theorem d_M_copy_9 : decode b_M_copy 9 = .ok (.aload_n 0, 1) := by decide +kernel
theorem d_M_copy_10 : decode b_M_copy 10 = .ok (.iload_n 2, 1) := by decide +kernel
theorem d_M_copy_11 : decode b_M_copy 11 = .ok (.invokevirtual 117, 3) := by decide +kernel
theorem d_M_copy_14 : decode b_M_copy 14 = .ok (.ifCond .eq 7, 3) := by decide +kernel
theorem d_M_copy_17 : decode b_M_copy 17 = .ok (.iconst 0, 1) := by decide +kernel
theorem d_M_copy_18 : decode b_M_copy 18 = .ok (.goto 4, 3) := by decide +kernel
theorem d_M_copy_21 : decode b_M_copy 21 = .ok (.iconst 1, 1) := by decide +kernel
theorem d_M_copy_22 : decode b_M_copy 22 = .ok (.putfield 58, 3) := by decide +kernel
theorem d_M_copy_25 : decode b_M_copy 25 = .ok (.iconst 0, 1) := by decide +kernel
theorem d_M_copy_26 : decode b_M_copy 26 = .ok (.istore_n 3, 1) := by decide +kernel
theorem d_M_copy_27 : decode b_M_copy 27 = .ok (.iconst 0, 1) := by decide +kernel
theorem d_M_copy_28 : decode b_M_copy 28 = .ok (.istore 4, 2) := by decide +kernel
theorem d_M_copy_30 : decode b_M_copy 30 = .ok (.aload_n 0, 1) := by decide +kernel
theorem d_M_copy_31 : decode b_M_copy 31 = .ok (.getfield 58, 3) := by decide +kernel
theorem d_M_copy_34 : decode b_M_copy 34 = .ok (.ifCond .ne 86, 3) := by decide +kernel
theorem d_M_copy_37 : decode b_M_copy 37 = .ok (.iload 4, 2) := by decide +kernel
theorem d_M_copy_39 : decode b_M_copy 39 = .ok (.aload_n 0, 1) := by decide +kernel
theorem d_M_copy_40 : decode b_M_copy 40 = .ok (.getfield 25, 3) := by decide +kernel
theorem d_M_copy_43 : decode b_M_copy 43 = .ok (.iload_n 1, 1) := by decide +kernel
theorem d_M_copy_44 : decode b_M_copy 44 = .ok (.iaload, 1) := by decide +kernel
theorem d_M_copy_45 : decode b_M_copy 45 = .ok (.if_icmp .gt 75, 3) := by decide +kernel
theorem d_M_copy_48 : decode b_M_copy 48 = .ok (.iload 4, 2) := by decide +kernel
theorem d_M_copy_50 : decode b_M_copy 50 = .ok (.aload_n 0, 1) := by decide +kernel
theorem d_M_copy_51 : decode b_M_copy 51 = .ok (.getfield 25, 3) := by decide +kernel
theorem d_M_copy_54 : decode b_M_copy 54 = .ok (.iload_n 2, 1) := by decide +kernel
theorem d_M_copy_55 : decode b_M_copy 55 = .ok (.iaload, 1) := by decide +kernel
theorem d_M_copy_56 : decode b_M_copy 56 = .ok (.if_icmp .gt 64, 3) := by decide +kernel
theorem d_M_copy_59 : decode b_M_copy 59 = .ok (.aload_n 0, 1) := by decide +kernel
theorem d_M_copy_60 : decode b_M_copy 60 = .ok (.getfield 31, 3) := by decide +kernel
theorem d_M_copy_63 : decode b_M_copy 63 = .ok (.bipush 65, 2) := by decide +kernel
theorem d_M_copy_65 : decode b_M_copy 65 = .ok (.iload_n 1, 1) := by decide +kernel
theorem d_M_copy_66 : decode b_M_copy 66 = .ok (.imul, 1) := by decide +kernel
theorem d_M_copy_67 : decode b_M_copy 67 = .ok (.iload 4, 2) := by decide +kernel
theorem d_M_copy_69 : decode b_M_copy 69 = .ok (.iadd, 1) := by decide +kernel
theorem d_M_copy_70 : decode b_M_copy 70 = .ok (.iaload, 1) := by decide +kernel
theorem d_M_copy_71 : decode b_M_copy 71 = .ok (.aload_n 0, 1) := by decide +kernel
theorem d_M_copy_72 : decode b_M_copy 72 = .ok (.getfield 31, 3) := by decide +kernel
theorem d_M_copy_75 : decode b_M_copy 75 = .ok (.bipush 65, 2) := by decide +kernel
theorem d_M_copy_77 : decode b_M_copy 77 = .ok (.iload_n 2, 1) := by decide +kernel
theorem d_M_copy_78 : decode b_M_copy 78 = .ok (.imul, 1) := by decide +kernel
theorem d_M_copy_79 : decode b_M_copy 79 = .ok (.iload 4, 2) := by decide +kernel
theorem d_M_copy_81 : decode b_M_copy 81 = .ok (.iadd, 1) := by decide +kernel
theorem d_M_copy_82 : decode b_M_copy 82 = .ok (.iaload, 1) := by decide +kernel
theorem d_M_copy_83 : decode b_M_copy 83 = .ok (.isub, 1) := by decide +kernel
theorem d_M_copy_84 : decode b_M_copy 84 = .ok (.istore 5, 2) := by decide +kernel
theorem d_M_copy_86 : decode b_M_copy 86 = .ok (.iload 5, 2) := by decide +kernel
theorem d_M_copy_88 : decode b_M_copy 88 = .ok (.ifCond .ge 9, 3) := by decide +kernel
theorem d_M_copy_91 : decode b_M_copy 91 = .ok (.iload 5, 2) := by decide +kernel
theorem d_M_copy_93 : decode b_M_copy 93 = .ok (.ineg, 1) := by decide +kernel
theorem d_M_copy_94 : decode b_M_copy 94 = .ok (.goto 5, 3) := by decide +kernel
theorem d_M_copy_97 : decode b_M_copy 97 = .ok (.iload 5, 2) := by decide +kernel
theorem d_M_copy_99 : decode b_M_copy 99 = .ok (.istore 5, 2) := by decide +kernel
theorem d_M_copy_101 : decode b_M_copy 101 = .ok (.iload 5, 2) := by decide +kernel
theorem d_M_copy_103 : decode b_M_copy 103 = .ok (.iload_n 3, 1) := by decide +kernel
theorem d_M_copy_104 : decode b_M_copy 104 = .ok (.if_icmp .le 8, 3) := by decide +kernel
theorem d_M_copy_107 : decode b_M_copy 107 = .ok (.iload 5, 2) := by decide +kernel
theorem d_M_copy_109 : decode b_M_copy 109 = .ok (.goto 4, 3) := by decide +kernel
theorem d_M_copy_112 : decode b_M_copy 112 = .ok (.iload_n 3, 1) := by decide +kernel
theorem d_M_copy_113 : decode b_M_copy 113 = .ok (.istore_n 3, 1) := by decide +kernel
theorem d_M_copy_114 : decode b_M_copy 114 = .ok (.iinc 4 1, 3) := by decide +kernel
theorem d_M_copy_117 : decode b_M_copy 117 = .ok (.goto (-87), 3) := by decide +kernel
theorem d_M_copy_120 : decode b_M_copy 120 = .ok (.iload_n 3, 1) := by decide +kernel
theorem d_M_copy_121 : decode b_M_copy 121 = .ok (.ireturn, 1) := by decide +kernel
theorem d_M_cut_0 : decode b_M_cut 0 = .ok (.aload_n 0, 1) := by decide +kernel
theorem d_M_cut_1 : decode b_M_cut 1 = .ok (.iload_n 1, 1) := by decide +kernel
theorem d_M_cut_2 : decode b_M_cut 2 = .ok (.iload_n 2, 1) := by decide +kernel
theorem d_M_cut_3 : decode b_M_cut 3 = .ok (.iload_n 3, 1) := by decide +kernel
theorem d_M_cut_4 : decode b_M_cut 4 = .ok (.iload 4, 2) := by decide +kernel
theorem d_M_cut_6 : decode b_M_cut 6 = .ok (.invokevirtual 142, 3) := by decide +kernel
theorem d_M_cut_9 : decode b_M_cut 9 = .ok (.aload_n 0, 1) := by decide +kernel
theorem d_M_cut_10 : decode b_M_cut 10 = .ok (.aload_n 0, 1) := by decide +kernel
theorem d_M_cut_11 : decode b_M_cut 11 = .ok (.getfield 58, 3) := by decide +kernel
theorem d_M_cut_14 : decode b_M_cut 14 = .ok (.ifCond .ne 13, 3) := by decide +kernel
theorem d_M_cut_17 : decode b_M_cut 17 = .ok (.iload 5, 2) := by decide +kernel
theorem d_M_cut_19 : decode b_M_cut 19 = .ok (.iconst 1, 1) := by decide +kernel
theorem d_M_cut_20 : decode b_M_cut 20 = .ok (.if_icmp .ge 7, 3) := by decide +kernel
theorem d_M_cut_23 : decode b_M_cut 23 = .ok (.iconst 2, 1) := by decide +kernel
theorem d_M_cut_24 : decode b_M_cut 24 = .ok (.goto 7, 3) := by decide +kernel
theorem d_M_cut_27 : decode b_M_cut 27 = .ok (.aload_n 0, 1) := by decide +kernel
theorem d_M_cut_28 : decode b_M_cut 28 = .ok (.getfield 58, 3) := by decide +kernel
theorem d_M_cut_31 : decode b_M_cut 31 = .ok (.putfield 58, 3) := by decide +kernel
theorem d_M_cut_34 : decode b_M_cut 34 = .ok (.aload_n 0, 1) := by decide +kernel
theorem d_M_cut_35 : decode b_M_cut 35 = .ok (.getfield 58, 3) := by decide +kernel
theorem d_M_cut_38 : decode b_M_cut 38 = .ok (.ifCond .le 5, 3) := by decide +kernel
theorem d_M_cut_41 : decode b_M_cut 41 = .ok (.iconst 0, 1) := by decide +kernel
theorem d_M_cut_42 : decode b_M_cut 42 = .ok (.ireturn, 1) := by decide +kernel
theorem d_M_cut_43 : decode b_M_cut 43 = .ok (.aload_n 0, 1) := by decide +kernel
theorem d_M_cut_44 : decode b_M_cut 44 = .ok (.iload_n 1, 1) := by decide +kernel
theorem d_M_cut_45 : decode b_M_cut 45 = .ok (.iload_n 2, 1) := by decide +kernel
theorem d_M_cut_46 : decode b_M_cut 46 = .ok (.invokevirtual 135, 3) := by decide +kernel
theorem d_M_cut_49 : decode b_M_cut 49 = .ok (.aload_n 0, 1) := by decide +kernel
theorem d_M_cut_50 : decode b_M_cut 50 = .ok (.iload_n 1, 1) := by decide +kernel
theorem d_M_cut_51 : decode b_M_cut 51 = .ok (.iload 4, 2) := by decide +kernel
theorem d_M_cut_53 : decode b_M_cut 53 = .ok (.aload_n 0, 1) := by decide +kernel
theorem d_M_cut_54 : decode b_M_cut 54 = .ok (.iload_n 1, 1) := by decide +kernel
theorem d_M_cut_55 : decode b_M_cut 55 = .ok (.invokevirtual 127, 3) := by decide +kernel
theorem d_M_cut_58 : decode b_M_cut 58 = .ok (.i2l, 1) := by decide +kernel
theorem d_M_cut_59 : decode b_M_cut 59 = .ok (.iload 5, 2) := by decide +kernel
theorem d_M_cut_61 : decode b_M_cut 61 = .ok (.i2l, 1) := by decide +kernel
theorem d_M_cut_62 : decode b_M_cut 62 = .ok (.lconst 1, 1) := by decide +kernel
theorem d_M_cut_63 : decode b_M_cut 63 = .ok (.lsub, 1) := by decide +kernel
theorem d_M_cut_64 : decode b_M_cut 64 = .ok (.iload_n 3, 1) := by decide +kernel
theorem d_M_cut_65 : decode b_M_cut 65 = .ok (.i2l, 1) := by decide +kernel
theorem d_M_cut_66 : decode b_M_cut 66 = .ok (.lmul, 1) := by decide +kernel
theorem d_M_cut_67 : decode b_M_cut 67 = .ok (.lsub, 1) := by decide +kernel
theorem d_M_cut_68 : decode b_M_cut 68 = .ok (.invokevirtual 146, 3) := by decide +kernel
theorem d_M_cut_71 : decode b_M_cut 71 = .ok (.ireturn, 1) := by decide +kernel
theorem d_M_flute_0 : decode b_M_flute 0 = .ok (.aload_n 0, 1) := by decide +kernel
theorem d_M_flute_1 : decode b_M_flute 1 = .ok (.iload_n 3, 1) := by decide +kernel
theorem d_M_flute_2 : decode b_M_flute 2 = .ok (.i2l, 1) := by decide +kernel
theorem d_M_flute_3 : decode b_M_flute 3 = .ok (.lconst 0, 1) := by decide +kernel
theorem d_M_flute_4 : decode b_M_flute 4 = .ok (.lconst 1, 1) := by decide +kernel
theorem d_M_flute_5 : decode b_M_flute 5 = .ok (.invokestatic 64, 3) := by decide +kernel
theorem d_M_flute_8 : decode b_M_flute 8 = .ok (.ifCond .ne 7, 3) := by decide +kernel
theorem d_M_flute_11 : decode b_M_flute 11 = .ok (.iconst 1, 1) := by decide +kernel
theorem d_M_flute_12 : decode b_M_flute 12 = .ok (.goto 33, 3) := by decide +kernel
theorem d_M_flute_15 : decode b_M_flute 15 = .ok (.iload_n 1, 1) := by decide +kernel
theorem d_M_flute_16 : decode b_M_flute 16 = .ok (.i2l, 1) := by decide +kernel
theorem d_M_flute_17 : decode b_M_flute 17 = .ok (.lconst 1, 1) := by decide +kernel
theorem d_M_flute_18 : decode b_M_flute 18 = .ok (.ldc2_w 177, 3) := by decide +kernel
theorem d_M_flute_21 : decode b_M_flute 21 = .ok (.invokestatic 64, 3) := by decide +kernel
theorem d_M_flute_24 : decode b_M_flute 24 = .ok (.ifCond .eq 16, 3) := by decide +kernel
theorem d_M_flute_27 : decode b_M_flute 27 = .ok (.iload_n 2, 1) := by decide +kernel
theorem d_M_flute_28 : decode b_M_flute 28 = .ok (.i2l, 1) := by decide +kernel
theorem d_M_flute_29 : decode b_M_flute 29 = .ok (.lconst 0, 1) := by decide +kernel
theorem d_M_flute_30 : decode b_M_flute 30 = .ok (.iload_n 1, 1) := by decide +kernel
theorem d_M_flute_31 : decode b_M_flute 31 = .ok (.iconst 1, 1) := by decide +kernel
theorem d_M_flute_32 : decode b_M_flute 32 = .ok (.isub, 1) := by decide +kernel
theorem d_M_flute_33 : decode b_M_flute 33 = .ok (.i2l, 1) := by decide +kernel
theorem d_M_flute_34 : decode b_M_flute 34 = .ok (.invokestatic 64, 3) := by decide +kernel
theorem d_M_flute_37 : decode b_M_flute 37 = .ok (.ifCond .ne 7, 3) := by decide +kernel
theorem d_M_flute_40 : decode b_M_flute 40 = .ok (.iconst 2, 1) := by decide +kernel
theorem d_M_flute_41 : decode b_M_flute 41 = .ok (.goto 4, 3) := by decide +kernel
theorem d_M_flute_44 : decode b_M_flute 44 = .ok (.iconst 0, 1) := by decide +kernel
theorem d_M_flute_45 : decode b_M_flute 45 = .ok (.putfield 58, 3) := by decide +kernel
theorem d_M_flute_48 : decode b_M_flute 48 = .ok (.aload_n 0, 1) := by decide +kernel
theorem d_M_flute_49 : decode b_M_flute 49 = .ok (.getfield 58, 3) := by decide +kernel
theorem d_M_flute_52 : decode b_M_flute 52 = .ok (.ifCond .le 7, 3) := by decide +kernel
theorem d_M_flute_55 : decode b_M_flute 55 = .ok (.lconst 0, 1) := by decide +kernel
theorem d_M_flute_56 : decode b_M_flute 56 = .ok (.goto 15, 3) := by decide +kernel
theorem d_M_flute_59 : decode b_M_flute 59 = .ok (.ldc2_w 179, 3) := by decide +kernel
theorem d_M_flute_62 : decode b_M_flute 62 = .ok (.iload_n 2, 1) := by decide +kernel
theorem d_M_flute_63 : decode b_M_flute 63 = .ok (.i2l, 1) := by decide +kernel
theorem d_M_flute_64 : decode b_M_flute 64 = .ok (.lmul, 1) := by decide +kernel
theorem d_M_flute_65 : decode b_M_flute 65 = .ok (.iload_n 1, 1) := by decide +kernel
theorem d_M_flute_66 : decode b_M_flute 66 = .ok (.i2l, 1) := by decide +kernel
theorem d_M_flute_67 : decode b_M_flute 67 = .ok (.iload_n 3, 1) := by decide +kernel
theorem d_M_flute_68 : decode b_M_flute 68 = .ok (.invokestatic 165, 3) := by decide +kernel
theorem d_M_flute_71 : decode b_M_flute 71 = .ok (.lreturn, 1) := by decide +kernel
theorem d_M_gap_0 : decode b_M_gap 0 = .ok (.aload_n 0, 1) := by decide +kernel
theorem d_M_gap_1 : decode b_M_gap 1 = .ok (.iload_n 1, 1) := by decide +kernel
theorem d_M_gap_2 : decode b_M_gap 2 = .ok (.i2l, 1) := by decide +kernel
theorem d_M_gap_3 : decode b_M_gap 3 = .ok (.lconst 0, 1) := by decide +kernel
theorem d_M_gap_4 : decode b_M_gap 4 = .ok (.aload_n 0, 1) := by decide +kernel
theorem d_M_gap_5 : decode b_M_gap 5 = .ok (.getfield 160, 3) := by decide +kernel
theorem d_M_gap_8 : decode b_M_gap 8 = .ok (.iconst 1, 1) := by decide +kernel
theorem d_M_gap_9 : decode b_M_gap 9 = .ok (.isub, 1) := by decide +kernel
theorem d_M_gap_10 : decode b_M_gap 10 = .ok (.i2l, 1) := by decide +kernel
theorem d_M_gap_11 : decode b_M_gap 11 = .ok (.invokestatic 64, 3) := by decide +kernel
theorem d_M_gap_14 : decode b_M_gap 14 = .ok (.ifCond .eq 17, 3) := by decide +kernel
theorem d_M_gap_17 : decode b_M_gap 17 = .ok (.iload_n 2, 1) := by decide +kernel
theorem d_M_gap_18 : decode b_M_gap 18 = .ok (.i2l, 1) := by decide +kernel
theorem d_M_gap_19 : decode b_M_gap 19 = .ok (.lconst 0, 1) := by decide +kernel
theorem d_M_gap_20 : decode b_M_gap 20 = .ok (.lconst 1, 1) := by decide +kernel
theorem d_M_gap_21 : decode b_M_gap 21 = .ok (.invokestatic 64, 3) := by decide +kernel
theorem d_M_gap_24 : decode b_M_gap 24 = .ok (.ifCond .eq 7, 3) := by decide +kernel
theorem d_M_gap_27 : decode b_M_gap 27 = .ok (.iconst 0, 1) := by decide +kernel
theorem d_M_gap_28 : decode b_M_gap 28 = .ok (.goto 4, 3) := by decide +kernel
theorem d_M_gap_31 : decode b_M_gap 31 = .ok (.iconst 1, 1) := by decide +kernel
theorem d_M_gap_32 : decode b_M_gap 32 = .ok (.putfield 58, 3) := by decide +kernel
theorem d_M_gap_35 : decode b_M_gap 35 = .ok (.aload_n 0, 1) := by decide +kernel
theorem d_M_gap_36 : decode b_M_gap 36 = .ok (.getfield 58, 3) := by decide +kernel
theorem d_M_gap_39 : decode b_M_gap 39 = .ok (.ifCond .le 7, 3) := by decide +kernel
theorem d_M_gap_42 : decode b_M_gap 42 = .ok (.lconst 0, 1) := by decide +kernel
theorem d_M_gap_43 : decode b_M_gap 43 = .ok (.goto 15, 3) := by decide +kernel
theorem d_M_gap_46 : decode b_M_gap 46 = .ok (.aload_n 0, 1) := by decide +kernel
theorem d_M_gap_47 : decode b_M_gap 47 = .ok (.iload_n 1, 1) := by decide +kernel
theorem d_M_gap_48 : decode b_M_gap 48 = .ok (.invokevirtual 171, 3) := by decide +kernel
theorem d_M_gap_51 : decode b_M_gap 51 = .ok (.ldc2_w 175, 3) := by decide +kernel
theorem d_M_gap_54 : decode b_M_gap 54 = .ok (.iload_n 2, 1) := by decide +kernel
theorem d_M_gap_55 : decode b_M_gap 55 = .ok (.invokestatic 165, 3) := by decide +kernel
theorem d_M_gap_58 : decode b_M_gap 58 = .ok (.lreturn, 1) := by decide +kernel
theorem d_M_gapOf_0 : decode b_M_gapOf 0 = .ok (.ldc2_w 169, 3) := by decide +kernel
theorem d_M_gapOf_3 : decode b_M_gapOf 3 = .ok (.lstore_n 2, 1) := by decide +kernel
theorem d_M_gapOf_4 : decode b_M_gapOf 4 = .ok (.iconst 0, 1) := by decide +kernel
theorem d_M_gapOf_5 : decode b_M_gapOf 5 = .ok (.istore 4, 2) := by decide +kernel
theorem d_M_gapOf_7 : decode b_M_gapOf 7 = .ok (.iload 4, 2) := by decide +kernel
theorem d_M_gapOf_9 : decode b_M_gapOf 9 = .ok (.aload_n 0, 1) := by decide +kernel
theorem d_M_gapOf_10 : decode b_M_gapOf 10 = .ok (.getfield 43, 3) := by decide +kernel
theorem d_M_gapOf_13 : decode b_M_gapOf 13 = .ok (.iload_n 1, 1) := by decide +kernel
theorem d_M_gapOf_14 : decode b_M_gapOf 14 = .ok (.iaload, 1) := by decide +kernel
theorem d_M_gapOf_15 : decode b_M_gapOf 15 = .ok (.if_icmp .ge 43, 3) := by decide +kernel
theorem d_M_gapOf_18 : decode b_M_gapOf 18 = .ok (.lload_n 2, 1) := by decide +kernel
theorem d_M_gapOf_19 : decode b_M_gapOf 19 = .ok (.aload_n 0, 1) := by decide +kernel
theorem d_M_gapOf_20 : decode b_M_gapOf 20 = .ok (.getfield 46, 3) := by decide +kernel
theorem d_M_gapOf_23 : decode b_M_gapOf 23 = .ok (.bipush 16, 2) := by decide +kernel
theorem d_M_gapOf_25 : decode b_M_gapOf 25 = .ok (.iload_n 1, 1) := by decide +kernel
theorem d_M_gapOf_26 : decode b_M_gapOf 26 = .ok (.imul, 1) := by decide +kernel
theorem d_M_gapOf_27 : decode b_M_gapOf 27 = .ok (.iload 4, 2) := by decide +kernel
theorem d_M_gapOf_29 : decode b_M_gapOf 29 = .ok (.iadd, 1) := by decide +kernel
theorem d_M_gapOf_30 : decode b_M_gapOf 30 = .ok (.iaload, 1) := by decide +kernel
theorem d_M_gapOf_31 : decode b_M_gapOf 31 = .ok (.i2l, 1) := by decide +kernel
theorem d_M_gapOf_32 : decode b_M_gapOf 32 = .ok (.sipush 27720, 3) := by decide +kernel
theorem d_M_gapOf_35 : decode b_M_gapOf 35 = .ok (.aload_n 0, 1) := by decide +kernel
theorem d_M_gapOf_36 : decode b_M_gapOf 36 = .ok (.getfield 49, 3) := by decide +kernel
theorem d_M_gapOf_39 : decode b_M_gapOf 39 = .ok (.bipush 16, 2) := by decide +kernel
theorem d_M_gapOf_41 : decode b_M_gapOf 41 = .ok (.iload_n 1, 1) := by decide +kernel
theorem d_M_gapOf_42 : decode b_M_gapOf 42 = .ok (.imul, 1) := by decide +kernel
theorem d_M_gapOf_43 : decode b_M_gapOf 43 = .ok (.iload 4, 2) := by decide +kernel
theorem d_M_gapOf_45 : decode b_M_gapOf 45 = .ok (.iadd, 1) := by decide +kernel
theorem d_M_gapOf_46 : decode b_M_gapOf 46 = .ok (.iaload, 1) := by decide +kernel
theorem d_M_gapOf_47 : decode b_M_gapOf 47 = .ok (.idiv, 1) := by decide +kernel
theorem d_M_gapOf_48 : decode b_M_gapOf 48 = .ok (.i2l, 1) := by decide +kernel
theorem d_M_gapOf_49 : decode b_M_gapOf 49 = .ok (.lmul, 1) := by decide +kernel
theorem d_M_gapOf_50 : decode b_M_gapOf 50 = .ok (.lsub, 1) := by decide +kernel
theorem d_M_gapOf_51 : decode b_M_gapOf 51 = .ok (.lstore_n 2, 1) := by decide +kernel
theorem d_M_gapOf_52 : decode b_M_gapOf 52 = .ok (.iinc 4 1, 3) := by decide +kernel
theorem d_M_gapOf_55 : decode b_M_gapOf 55 = .ok (.goto (-48), 3) := by decide +kernel
theorem d_M_gapOf_58 : decode b_M_gapOf 58 = .ok (.lload_n 2, 1) := by decide +kernel
theorem d_M_gapOf_59 : decode b_M_gapOf 59 = .ok (.lreturn, 1) := by decide +kernel
theorem d_M_hasPlace_0 : decode b_M_hasPlace 0 = .ok (.aload_n 0, 1) := by decide +kernel
theorem d_M_hasPlace_1 : decode b_M_hasPlace 1 = .ok (.iload_n 1, 1) := by decide +kernel
theorem d_M_hasPlace_2 : decode b_M_hasPlace 2 = .ok (.invokevirtual 117, 3) := by decide +kernel
theorem d_M_hasPlace_5 : decode b_M_hasPlace 5 = .ok (.ifCond .eq 23, 3) := by decide +kernel
theorem d_M_hasPlace_8 : decode b_M_hasPlace 8 = .ok (.iload_n 2, 1) := by decide +kernel
theorem d_M_hasPlace_9 : decode b_M_hasPlace 9 = .ok (.i2l, 1) := by decide +kernel
theorem d_M_hasPlace_10 : decode b_M_hasPlace 10 = .ok (.lconst 0, 1) := by decide +kernel
theorem d_M_hasPlace_11 : decode b_M_hasPlace 11 = .ok (.aload_n 0, 1) := by decide +kernel
theorem d_M_hasPlace_12 : decode b_M_hasPlace 12 = .ok (.getfield 25, 3) := by decide +kernel
theorem d_M_hasPlace_15 : decode b_M_hasPlace 15 = .ok (.iload_n 1, 1) := by decide +kernel
theorem d_M_hasPlace_16 : decode b_M_hasPlace 16 = .ok (.iaload, 1) := by decide +kernel
theorem d_M_hasPlace_17 : decode b_M_hasPlace 17 = .ok (.i2l, 1) := by decide +kernel
theorem d_M_hasPlace_18 : decode b_M_hasPlace 18 = .ok (.invokestatic 64, 3) := by decide +kernel
theorem d_M_hasPlace_21 : decode b_M_hasPlace 21 = .ok (.ifCond .eq 7, 3) := by decide +kernel
theorem d_M_hasPlace_24 : decode b_M_hasPlace 24 = .ok (.iconst 1, 1) := by decide +kernel
theorem d_M_hasPlace_25 : decode b_M_hasPlace 25 = .ok (.goto 4, 3) := by decide +kernel
theorem d_M_hasPlace_28 : decode b_M_hasPlace 28 = .ok (.iconst 0, 1) := by decide +kernel
theorem d_M_hasPlace_29 : decode b_M_hasPlace 29 = .ok (.ireturn, 1) := by decide +kernel
theorem d_M_hollow_0 : decode b_M_hollow 0 = .ok (.aload_n 0, 1) := by decide +kernel
theorem d_M_hollow_1 : decode b_M_hollow 1 = .ok (.aload_n 0, 1) := by decide +kernel
theorem d_M_hollow_2 : decode b_M_hollow 2 = .ok (.iload_n 1, 1) := by decide +kernel
theorem d_M_hollow_3 : decode b_M_hollow 3 = .ok (.invokevirtual 117, 3) := by decide +kernel
theorem d_M_hollow_6 : decode b_M_hollow 6 = .ok (.ifCond .ne 7, 3) := by decide +kernel
theorem d_M_hollow_9 : decode b_M_hollow 9 = .ok (.iconst 1, 1) := by decide +kernel
theorem d_M_hollow_10 : decode b_M_hollow 10 = .ok (.goto 32, 3) := by decide +kernel
theorem d_M_hollow_13 : decode b_M_hollow 13 = .ok (.iload_n 2, 1) := by decide +kernel
theorem d_M_hollow_14 : decode b_M_hollow 14 = .ok (.i2l, 1) := by decide +kernel
theorem d_M_hollow_15 : decode b_M_hollow 15 = .ok (.lconst 1, 1) := by decide +kernel
theorem d_M_hollow_16 : decode b_M_hollow 16 = .ok (.ldc2_w 138, 3) := by decide +kernel
theorem d_M_hollow_19 : decode b_M_hollow 19 = .ok (.invokestatic 64, 3) := by decide +kernel
theorem d_M_hollow_22 : decode b_M_hollow 22 = .ok (.ifCond .eq 15, 3) := by decide +kernel
theorem d_M_hollow_25 : decode b_M_hollow 25 = .ok (.iload_n 3, 1) := by decide +kernel
theorem d_M_hollow_26 : decode b_M_hollow 26 = .ok (.i2l, 1) := by decide +kernel
theorem d_M_hollow_27 : decode b_M_hollow 27 = .ok (.lconst 0, 1) := by decide +kernel
theorem d_M_hollow_28 : decode b_M_hollow 28 = .ok (.ldc2_w 138, 3) := by decide +kernel
theorem d_M_hollow_31 : decode b_M_hollow 31 = .ok (.invokestatic 64, 3) := by decide +kernel
theorem d_M_hollow_34 : decode b_M_hollow 34 = .ok (.ifCond .ne 7, 3) := by decide +kernel
theorem d_M_hollow_37 : decode b_M_hollow 37 = .ok (.iconst 2, 1) := by decide +kernel
theorem d_M_hollow_38 : decode b_M_hollow 38 = .ok (.goto 4, 3) := by decide +kernel
theorem d_M_hollow_41 : decode b_M_hollow 41 = .ok (.iconst 0, 1) := by decide +kernel
theorem d_M_hollow_42 : decode b_M_hollow 42 = .ok (.putfield 58, 3) := by decide +kernel
theorem d_M_hollow_45 : decode b_M_hollow 45 = .ok (.aload_n 0, 1) := by decide +kernel
theorem d_M_hollow_46 : decode b_M_hollow 46 = .ok (.getfield 58, 3) := by decide +kernel
theorem d_M_hollow_49 : decode b_M_hollow 49 = .ok (.ifCond .le 5, 3) := by decide +kernel
theorem d_M_hollow_52 : decode b_M_hollow 52 = .ok (.iconst 0, 1) := by decide +kernel
theorem d_M_hollow_53 : decode b_M_hollow 53 = .ok (.ireturn, 1) := by decide +kernel
theorem d_M_hollow_54 : decode b_M_hollow 54 = .ok (.iconst 0, 1) := by decide +kernel
theorem d_M_hollow_55 : decode b_M_hollow 55 = .ok (.istore 4, 2) := by decide +kernel
theorem d_M_hollow_57 : decode b_M_hollow 57 = .ok (.iload 4, 2) := by decide +kernel
theorem d_M_hollow_59 : decode b_M_hollow 59 = .ok (.aload_n 0, 1) := by decide +kernel
theorem d_M_hollow_60 : decode b_M_hollow 60 = .ok (.getfield 25, 3) := by decide +kernel
theorem d_M_hollow_63 : decode b_M_hollow 63 = .ok (.iload_n 1, 1) := by decide +kernel
theorem d_M_hollow_64 : decode b_M_hollow 64 = .ok (.iaload, 1) := by decide +kernel
theorem d_M_hollow_65 : decode b_M_hollow 65 = .ok (.if_icmp .gt 34, 3) := by decide +kernel
theorem d_M_hollow_68 : decode b_M_hollow 68 = .ok (.aload_n 0, 1) := by decide +kernel
theorem d_M_hollow_69 : decode b_M_hollow 69 = .ok (.getfield 31, 3) := by decide +kernel
theorem d_M_hollow_72 : decode b_M_hollow 72 = .ok (.bipush 65, 2) := by decide +kernel
theorem d_M_hollow_74 : decode b_M_hollow 74 = .ok (.iload_n 1, 1) := by decide +kernel
theorem d_M_hollow_75 : decode b_M_hollow 75 = .ok (.imul, 1) := by decide +kernel
theorem d_M_hollow_76 : decode b_M_hollow 76 = .ok (.aload_n 0, 1) := by decide +kernel
theorem d_M_hollow_77 : decode b_M_hollow 77 = .ok (.getfield 25, 3) := by decide +kernel
theorem d_M_hollow_80 : decode b_M_hollow 80 = .ok (.iload_n 1, 1) := by decide +kernel
theorem d_M_hollow_81 : decode b_M_hollow 81 = .ok (.iaload, 1) := by decide +kernel
theorem d_M_hollow_82 : decode b_M_hollow 82 = .ok (.iadd, 1) := by decide +kernel
theorem d_M_hollow_83 : decode b_M_hollow 83 = .ok (.iload 4, 2) := by decide +kernel
theorem d_M_hollow_85 : decode b_M_hollow 85 = .ok (.isub, 1) := by decide +kernel
theorem d_M_hollow_86 : decode b_M_hollow 86 = .ok (.iaload, 1) := by decide +kernel
theorem d_M_hollow_87 : decode b_M_hollow 87 = .ok (.iload_n 2, 1) := by decide +kernel
theorem d_M_hollow_88 : decode b_M_hollow 88 = .ok (.isub, 1) := by decide +kernel
theorem d_M_hollow_89 : decode b_M_hollow 89 = .ok (.iload_n 3, 1) := by decide +kernel
theorem d_M_hollow_90 : decode b_M_hollow 90 = .ok (.if_icmp .lt 9, 3) := by decide +kernel
theorem d_M_hollow_93 : decode b_M_hollow 93 = .ok (.iinc 4 1, 3) := by decide +kernel
theorem d_M_hollow_96 : decode b_M_hollow 96 = .ok (.goto (-39), 3) := by decide +kernel
theorem d_M_hollow_99 : decode b_M_hollow 99 = .ok (.iload 4, 2) := by decide +kernel
theorem d_M_hollow_101 : decode b_M_hollow 101 = .ok (.ireturn, 1) := by decide +kernel
theorem d_M_in_0 : decode b_M_in 0 = .ok (.lload_n 0, 1) := by decide +kernel
theorem d_M_in_1 : decode b_M_in 1 = .ok (.lload_n 2, 1) := by decide +kernel
theorem d_M_in_2 : decode b_M_in 2 = .ok (.lcmp, 1) := by decide +kernel
theorem d_M_in_3 : decode b_M_in 3 = .ok (.ifCond .lt 14, 3) := by decide +kernel
theorem d_M_in_6 : decode b_M_in 6 = .ok (.lload_n 0, 1) := by decide +kernel
theorem d_M_in_7 : decode b_M_in 7 = .ok (.lload 4, 2) := by decide +kernel
theorem d_M_in_9 : decode b_M_in 9 = .ok (.lcmp, 1) := by decide +kernel
theorem d_M_in_10 : decode b_M_in 10 = .ok (.ifCond .gt 7, 3) := by decide +kernel
theorem d_M_in_13 : decode b_M_in 13 = .ok (.iconst 1, 1) := by decide +kernel
theorem d_M_in_14 : decode b_M_in 14 = .ok (.goto 4, 3) := by decide +kernel
theorem d_M_in_17 : decode b_M_in 17 = .ok (.iconst 0, 1) := by decide +kernel
theorem d_M_in_18 : decode b_M_in 18 = .ok (.ireturn, 1) := by decide +kernel
theorem d_M_init_0 : decode b_M_init 0 = .ok (.aload_n 0, 1) := by decide +kernel
theorem d_M_init_1 : decode b_M_init 1 = .ok (.invokespecial 1, 3) := by decide +kernel
theorem d_M_init_4 : decode b_M_init 4 = .ok (.aload_n 0, 1) := by decide +kernel
theorem d_M_init_5 : decode b_M_init 5 = .ok (.bipush 64, 2) := by decide +kernel
theorem d_M_init_7 : decode b_M_init 7 = .ok (.newarray .int, 2) := by decide +kernel
theorem d_M_init_9 : decode b_M_init 9 = .ok (.putfield 7, 3) := by decide +kernel
theorem d_M_init_12 : decode b_M_init 12 = .ok (.aload_n 0, 1) := by decide +kernel
theorem d_M_init_13 : decode b_M_init 13 = .ok (.bipush 64, 2) := by decide +kernel
theorem d_M_init_15 : decode b_M_init 15 = .ok (.newarray .int, 2) := by decide +kernel
theorem d_M_init_17 : decode b_M_init 17 = .ok (.putfield 13, 3) := by decide +kernel
theorem d_M_init_20 : decode b_M_init 20 = .ok (.aload_n 0, 1) := by decide +kernel
theorem d_M_init_21 : decode b_M_init 21 = .ok (.bipush 64, 2) := by decide +kernel
theorem d_M_init_23 : decode b_M_init 23 = .ok (.newarray .int, 2) := by decide +kernel
theorem d_M_init_25 : decode b_M_init 25 = .ok (.putfield 16, 3) := by decide +kernel
theorem d_M_init_28 : decode b_M_init 28 = .ok (.aload_n 0, 1) := by decide +kernel
theorem d_M_init_29 : decode b_M_init 29 = .ok (.bipush 64, 2) := by decide +kernel
theorem d_M_init_31 : decode b_M_init 31 = .ok (.newarray .int, 2) := by decide +kernel
theorem d_M_init_33 : decode b_M_init 33 = .ok (.putfield 19, 3) := by decide +kernel
theorem d_M_init_36 : decode b_M_init 36 = .ok (.aload_n 0, 1) := by decide +kernel
theorem d_M_init_37 : decode b_M_init 37 = .ok (.bipush 64, 2) := by decide +kernel
theorem d_M_init_39 : decode b_M_init 39 = .ok (.newarray .int, 2) := by decide +kernel
theorem d_M_init_41 : decode b_M_init 41 = .ok (.putfield 22, 3) := by decide +kernel
theorem d_M_init_44 : decode b_M_init 44 = .ok (.aload_n 0, 1) := by decide +kernel
theorem d_M_init_45 : decode b_M_init 45 = .ok (.bipush 6, 2) := by decide +kernel
theorem d_M_init_47 : decode b_M_init 47 = .ok (.newarray .int, 2) := by decide +kernel
theorem d_M_init_49 : decode b_M_init 49 = .ok (.putfield 25, 3) := by decide +kernel
theorem d_M_init_52 : decode b_M_init 52 = .ok (.aload_n 0, 1) := by decide +kernel
theorem d_M_init_53 : decode b_M_init 53 = .ok (.bipush 6, 2) := by decide +kernel
theorem d_M_init_55 : decode b_M_init 55 = .ok (.newarray .int, 2) := by decide +kernel
theorem d_M_init_57 : decode b_M_init 57 = .ok (.putfield 28, 3) := by decide +kernel
theorem d_M_init_60 : decode b_M_init 60 = .ok (.aload_n 0, 1) := by decide +kernel
theorem d_M_init_61 : decode b_M_init 61 = .ok (.sipush 390, 3) := by decide +kernel
theorem d_M_init_64 : decode b_M_init 64 = .ok (.newarray .int, 2) := by decide +kernel
theorem d_M_init_66 : decode b_M_init 66 = .ok (.putfield 31, 3) := by decide +kernel
theorem d_M_init_69 : decode b_M_init 69 = .ok (.aload_n 0, 1) := by decide +kernel
theorem d_M_init_70 : decode b_M_init 70 = .ok (.bipush 6, 2) := by decide +kernel
theorem d_M_init_72 : decode b_M_init 72 = .ok (.newarray .int, 2) := by decide +kernel
theorem d_M_init_74 : decode b_M_init 74 = .ok (.putfield 34, 3) := by decide +kernel
theorem d_M_init_77 : decode b_M_init 77 = .ok (.aload_n 0, 1) := by decide +kernel
theorem d_M_init_78 : decode b_M_init 78 = .ok (.bipush 65, 2) := by decide +kernel
theorem d_M_init_80 : decode b_M_init 80 = .ok (.newarray .int, 2) := by decide +kernel
theorem d_M_init_82 : decode b_M_init 82 = .ok (.putfield 37, 3) := by decide +kernel
theorem d_M_init_85 : decode b_M_init 85 = .ok (.aload_n 0, 1) := by decide +kernel
theorem d_M_init_86 : decode b_M_init 86 = .ok (.bipush 65, 2) := by decide +kernel
theorem d_M_init_88 : decode b_M_init 88 = .ok (.newarray .int, 2) := by decide +kernel
theorem d_M_init_90 : decode b_M_init 90 = .ok (.putfield 40, 3) := by decide +kernel
theorem d_M_init_93 : decode b_M_init 93 = .ok (.aload_n 0, 1) := by decide +kernel
theorem d_M_init_94 : decode b_M_init 94 = .ok (.bipush 6, 2) := by decide +kernel
theorem d_M_init_96 : decode b_M_init 96 = .ok (.newarray .int, 2) := by decide +kernel
theorem d_M_init_98 : decode b_M_init 98 = .ok (.putfield 43, 3) := by decide +kernel
theorem d_M_init_101 : decode b_M_init 101 = .ok (.aload_n 0, 1) := by decide +kernel
theorem d_M_init_102 : decode b_M_init 102 = .ok (.bipush 96, 2) := by decide +kernel
theorem d_M_init_104 : decode b_M_init 104 = .ok (.newarray .int, 2) := by decide +kernel
theorem d_M_init_106 : decode b_M_init 106 = .ok (.putfield 46, 3) := by decide +kernel
theorem d_M_init_109 : decode b_M_init 109 = .ok (.aload_n 0, 1) := by decide +kernel
theorem d_M_init_110 : decode b_M_init 110 = .ok (.bipush 96, 2) := by decide +kernel
theorem d_M_init_112 : decode b_M_init 112 = .ok (.newarray .int, 2) := by decide +kernel
theorem d_M_init_114 : decode b_M_init 114 = .ok (.putfield 49, 3) := by decide +kernel
theorem d_M_init_117 : decode b_M_init 117 = .ok (.aload_n 0, 1) := by decide +kernel
theorem d_M_init_118 : decode b_M_init 118 = .ok (.bipush 8, 2) := by decide +kernel
theorem d_M_init_120 : decode b_M_init 120 = .ok (.newarray .int, 2) := by decide +kernel
theorem d_M_init_122 : decode b_M_init 122 = .ok (.putfield 52, 3) := by decide +kernel
theorem d_M_init_125 : decode b_M_init 125 = .ok (.aload_n 0, 1) := by decide +kernel
theorem d_M_init_126 : decode b_M_init 126 = .ok (.bipush 8, 2) := by decide +kernel
theorem d_M_init_128 : decode b_M_init 128 = .ok (.newarray .int, 2) := by decide +kernel
theorem d_M_init_130 : decode b_M_init 130 = .ok (.putfield 55, 3) := by decide +kernel
theorem d_M_init_133 : decode b_M_init 133 = .ok (.return_, 1) := by decide +kernel
theorem d_M_isPiece_0 : decode b_M_isPiece 0 = .ok (.iload_n 1, 1) := by decide +kernel
theorem d_M_isPiece_1 : decode b_M_isPiece 1 = .ok (.i2l, 1) := by decide +kernel
theorem d_M_isPiece_2 : decode b_M_isPiece 2 = .ok (.lconst 0, 1) := by decide +kernel
theorem d_M_isPiece_3 : decode b_M_isPiece 3 = .ok (.aload_n 0, 1) := by decide +kernel
theorem d_M_isPiece_4 : decode b_M_isPiece 4 = .ok (.getfield 111, 3) := by decide +kernel
theorem d_M_isPiece_7 : decode b_M_isPiece 7 = .ok (.iconst 1, 1) := by decide +kernel
theorem d_M_isPiece_8 : decode b_M_isPiece 8 = .ok (.isub, 1) := by decide +kernel
theorem d_M_isPiece_9 : decode b_M_isPiece 9 = .ok (.i2l, 1) := by decide +kernel
theorem d_M_isPiece_10 : decode b_M_isPiece 10 = .ok (.invokestatic 64, 3) := by decide +kernel
theorem d_M_isPiece_13 : decode b_M_isPiece 13 = .ok (.ireturn, 1) := by decide +kernel
theorem d_M_lastAt_0 : decode b_M_lastAt 0 = .ok (.aload_n 0, 1) := by decide +kernel
theorem d_M_lastAt_1 : decode b_M_lastAt 1 = .ok (.getfield 75, 3) := by decide +kernel
theorem d_M_lastAt_4 : decode b_M_lastAt 4 = .ok (.ifCond .ne 7, 3) := by decide +kernel
theorem d_M_lastAt_7 : decode b_M_lastAt 7 = .ok (.iconst 0, 1) := by decide +kernel
theorem d_M_lastAt_8 : decode b_M_lastAt 8 = .ok (.goto 14, 3) := by decide +kernel
theorem d_M_lastAt_11 : decode b_M_lastAt 11 = .ok (.aload_n 0, 1) := by decide +kernel
theorem d_M_lastAt_12 : decode b_M_lastAt 12 = .ok (.getfield 7, 3) := by decide +kernel
theorem d_M_lastAt_15 : decode b_M_lastAt 15 = .ok (.aload_n 0, 1) := by decide +kernel
theorem d_M_lastAt_16 : decode b_M_lastAt 16 = .ok (.getfield 75, 3) := by decide +kernel
theorem d_M_lastAt_19 : decode b_M_lastAt 19 = .ok (.iconst 1, 1) := by decide +kernel
theorem d_M_lastAt_20 : decode b_M_lastAt 20 = .ok (.isub, 1) := by decide +kernel
theorem d_M_lastAt_21 : decode b_M_lastAt 21 = .ok (.iaload, 1) := by decide +kernel
theorem d_M_lastAt_22 : decode b_M_lastAt 22 = .ok (.ireturn, 1) := by decide +kernel
theorem d_M_lastRadius_0 : decode b_M_lastRadius 0 = .ok (.aload_n 0, 1) := by decide +kernel
theorem d_M_lastRadius_1 : decode b_M_lastRadius 1 = .ok (.getfield 75, 3) := by decide +kernel
theorem d_M_lastRadius_4 : decode b_M_lastRadius 4 = .ok (.ifCond .ne 10, 3) := by decide +kernel
theorem d_M_lastRadius_7 : decode b_M_lastRadius 7 = .ok (.aload_n 0, 1) := by decide +kernel
theorem d_M_lastRadius_8 : decode b_M_lastRadius 8 = .ok (.getfield 72, 3) := by decide +kernel
theorem d_M_lastRadius_11 : decode b_M_lastRadius 11 = .ok (.goto 14, 3) := by decide +kernel
theorem d_M_lastRadius_14 : decode b_M_lastRadius 14 = .ok (.aload_n 0, 1) := by decide +kernel
theorem d_M_lastRadius_15 : decode b_M_lastRadius 15 = .ok (.getfield 13, 3) := by decide +kernel
theorem d_M_lastRadius_18 : decode b_M_lastRadius 18 = .ok (.aload_n 0, 1) := by decide +kernel
theorem d_M_lastRadius_19 : decode b_M_lastRadius 19 = .ok (.getfield 75, 3) := by decide +kernel
theorem d_M_lastRadius_22 : decode b_M_lastRadius 22 = .ok (.iconst 1, 1) := by decide +kernel
theorem d_M_lastRadius_23 : decode b_M_lastRadius 23 = .ok (.isub, 1) := by decide +kernel
theorem d_M_lastRadius_24 : decode b_M_lastRadius 24 = .ok (.iaload, 1) := by decide +kernel
theorem d_M_lastRadius_25 : decode b_M_lastRadius 25 = .ok (.ireturn, 1) := by decide +kernel
theorem d_M_left_0 : decode b_M_left 0 = .ok (.aload_n 0, 1) := by decide +kernel
theorem d_M_left_1 : decode b_M_left 1 = .ok (.aload_n 0, 1) := by decide +kernel
theorem d_M_left_2 : decode b_M_left 2 = .ok (.iload_n 1, 1) := by decide +kernel
theorem d_M_left_3 : decode b_M_left 3 = .ok (.invokevirtual 117, 3) := by decide +kernel
theorem d_M_left_6 : decode b_M_left 6 = .ok (.ifCond .eq 23, 3) := by decide +kernel
theorem d_M_left_9 : decode b_M_left 9 = .ok (.iload_n 2, 1) := by decide +kernel
theorem d_M_left_10 : decode b_M_left 10 = .ok (.i2l, 1) := by decide +kernel
theorem d_M_left_11 : decode b_M_left 11 = .ok (.lconst 0, 1) := by decide +kernel
theorem d_M_left_12 : decode b_M_left 12 = .ok (.aload_n 0, 1) := by decide +kernel
theorem d_M_left_13 : decode b_M_left 13 = .ok (.getfield 132, 3) := by decide +kernel
theorem d_M_left_16 : decode b_M_left 16 = .ok (.iconst 1, 1) := by decide +kernel
theorem d_M_left_17 : decode b_M_left 17 = .ok (.isub, 1) := by decide +kernel
theorem d_M_left_18 : decode b_M_left 18 = .ok (.i2l, 1) := by decide +kernel
theorem d_M_left_19 : decode b_M_left 19 = .ok (.invokestatic 64, 3) := by decide +kernel
theorem d_M_left_22 : decode b_M_left 22 = .ok (.ifCond .eq 7, 3) := by decide +kernel
theorem d_M_left_25 : decode b_M_left 25 = .ok (.iconst 0, 1) := by decide +kernel
theorem d_M_left_26 : decode b_M_left 26 = .ok (.goto 4, 3) := by decide +kernel
theorem d_M_left_29 : decode b_M_left 29 = .ok (.iconst 1, 1) := by decide +kernel
theorem d_M_left_30 : decode b_M_left 30 = .ok (.putfield 58, 3) := by decide +kernel
theorem d_M_left_33 : decode b_M_left 33 = .ok (.aload_n 0, 1) := by decide +kernel
theorem d_M_left_34 : decode b_M_left 34 = .ok (.getfield 58, 3) := by decide +kernel
theorem d_M_left_37 : decode b_M_left 37 = .ok (.ifCond .le 5, 3) := by decide +kernel
theorem d_M_left_40 : decode b_M_left 40 = .ok (.iconst 0, 1) := by decide +kernel
theorem d_M_left_41 : decode b_M_left 41 = .ok (.ireturn, 1) := by decide +kernel
theorem d_M_left_42 : decode b_M_left 42 = .ok (.aload_n 0, 1) := by decide +kernel
theorem d_M_left_43 : decode b_M_left 43 = .ok (.iload_n 1, 1) := by decide +kernel
theorem d_M_left_44 : decode b_M_left 44 = .ok (.iload_n 2, 1) := by decide +kernel
theorem d_M_left_45 : decode b_M_left 45 = .ok (.invokevirtual 135, 3) := by decide +kernel
theorem d_M_left_48 : decode b_M_left 48 = .ok (.iconst 0, 1) := by decide +kernel
theorem d_M_left_49 : decode b_M_left 49 = .ok (.istore_n 3, 1) := by decide +kernel
theorem d_M_left_50 : decode b_M_left 50 = .ok (.iconst 0, 1) := by decide +kernel
theorem d_M_left_51 : decode b_M_left 51 = .ok (.istore 4, 2) := by decide +kernel
theorem d_M_left_53 : decode b_M_left 53 = .ok (.iload 4, 2) := by decide +kernel
theorem d_M_left_55 : decode b_M_left 55 = .ok (.aload_n 0, 1) := by decide +kernel
theorem d_M_left_56 : decode b_M_left 56 = .ok (.getfield 25, 3) := by decide +kernel
theorem d_M_left_59 : decode b_M_left 59 = .ok (.iload_n 1, 1) := by decide +kernel
theorem d_M_left_60 : decode b_M_left 60 = .ok (.iaload, 1) := by decide +kernel
theorem d_M_left_61 : decode b_M_left 61 = .ok (.if_icmp .gt 39, 3) := by decide +kernel
theorem d_M_left_64 : decode b_M_left 64 = .ok (.iload_n 3, 1) := by decide +kernel
theorem d_M_left_65 : decode b_M_left 65 = .ok (.aload_n 0, 1) := by decide +kernel
theorem d_M_left_66 : decode b_M_left 66 = .ok (.getfield 40, 3) := by decide +kernel
theorem d_M_left_69 : decode b_M_left 69 = .ok (.iload 4, 2) := by decide +kernel
theorem d_M_left_71 : decode b_M_left 71 = .ok (.iaload, 1) := by decide +kernel
theorem d_M_left_72 : decode b_M_left 72 = .ok (.aload_n 0, 1) := by decide +kernel
theorem d_M_left_73 : decode b_M_left 73 = .ok (.getfield 31, 3) := by decide +kernel
theorem d_M_left_76 : decode b_M_left 76 = .ok (.bipush 65, 2) := by decide +kernel
theorem d_M_left_78 : decode b_M_left 78 = .ok (.iload_n 1, 1) := by decide +kernel
theorem d_M_left_79 : decode b_M_left 79 = .ok (.imul, 1) := by decide +kernel
theorem d_M_left_80 : decode b_M_left 80 = .ok (.iload 4, 2) := by decide +kernel
theorem d_M_left_82 : decode b_M_left 82 = .ok (.iadd, 1) := by decide +kernel
theorem d_M_left_83 : decode b_M_left 83 = .ok (.iaload, 1) := by decide +kernel
theorem d_M_left_84 : decode b_M_left 84 = .ok (.if_icmp .le 7, 3) := by decide +kernel
theorem d_M_left_87 : decode b_M_left 87 = .ok (.iconst 1, 1) := by decide +kernel
theorem d_M_left_88 : decode b_M_left 88 = .ok (.goto 4, 3) := by decide +kernel
theorem d_M_left_91 : decode b_M_left 91 = .ok (.iconst 0, 1) := by decide +kernel
theorem d_M_left_92 : decode b_M_left 92 = .ok (.iadd, 1) := by decide +kernel
theorem d_M_left_93 : decode b_M_left 93 = .ok (.istore_n 3, 1) := by decide +kernel
theorem d_M_left_94 : decode b_M_left 94 = .ok (.iinc 4 1, 3) := by decide +kernel
theorem d_M_left_97 : decode b_M_left 97 = .ok (.goto (-44), 3) := by decide +kernel
theorem d_M_left_100 : decode b_M_left 100 = .ok (.iload_n 3, 1) := by decide +kernel
theorem d_M_left_101 : decode b_M_left 101 = .ok (.ireturn, 1) := by decide +kernel
theorem d_M_line_0 : decode b_M_line 0 = .ok (.aload_n 0, 1) := by decide +kernel
theorem d_M_line_1 : decode b_M_line 1 = .ok (.iload_n 1, 1) := by decide +kernel
theorem d_M_line_2 : decode b_M_line 2 = .ok (.iload_n 2, 1) := by decide +kernel
theorem d_M_line_3 : decode b_M_line 3 = .ok (.invokevirtual 84, 3) := by decide +kernel
theorem d_M_line_6 : decode b_M_line 6 = .ok (.aload_n 0, 1) := by decide +kernel
theorem d_M_line_7 : decode b_M_line 7 = .ok (.getfield 58, 3) := by decide +kernel
theorem d_M_line_10 : decode b_M_line 10 = .ok (.ifCond .le 5, 3) := by decide +kernel
theorem d_M_line_13 : decode b_M_line 13 = .ok (.iconst 0, 1) := by decide +kernel
theorem d_M_line_14 : decode b_M_line 14 = .ok (.ireturn, 1) := by decide +kernel
theorem d_M_line_15 : decode b_M_line 15 = .ok (.aload_n 0, 1) := by decide +kernel
theorem d_M_line_16 : decode b_M_line 16 = .ok (.iload_n 1, 1) := by decide +kernel
theorem d_M_line_17 : decode b_M_line 17 = .ok (.iload_n 2, 1) := by decide +kernel
theorem d_M_line_18 : decode b_M_line 18 = .ok (.iconst 0, 1) := by decide +kernel
theorem d_M_line_19 : decode b_M_line 19 = .ok (.iconst 0, 1) := by decide +kernel
theorem d_M_line_20 : decode b_M_line 20 = .ok (.iconst 0, 1) := by decide +kernel
theorem d_M_line_21 : decode b_M_line 21 = .ok (.invokevirtual 88, 3) := by decide +kernel
theorem d_M_line_24 : decode b_M_line 24 = .ok (.aload_n 0, 1) := by decide +kernel
theorem d_M_line_25 : decode b_M_line 25 = .ok (.getfield 75, 3) := by decide +kernel
theorem d_M_line_28 : decode b_M_line 28 = .ok (.ireturn, 1) := by decide +kernel
theorem d_M_look_0 : decode b_M_look 0 = .ok (.aload_n 0, 1) := by decide +kernel
theorem d_M_look_1 : decode b_M_look 1 = .ok (.iload_n 2, 1) := by decide +kernel
theorem d_M_look_2 : decode b_M_look 2 = .ok (.i2l, 1) := by decide +kernel
theorem d_M_look_3 : decode b_M_look 3 = .ok (.lconst 0, 1) := by decide +kernel
theorem d_M_look_4 : decode b_M_look 4 = .ok (.ldc2_w 62, 3) := by decide +kernel
theorem d_M_look_7 : decode b_M_look 7 = .ok (.invokestatic 64, 3) := by decide +kernel
theorem d_M_look_10 : decode b_M_look 10 = .ok (.ifCond .eq 15, 3) := by decide +kernel
theorem d_M_look_13 : decode b_M_look 13 = .ok (.iload_n 1, 1) := by decide +kernel
theorem d_M_look_14 : decode b_M_look 14 = .ok (.i2l, 1) := by decide +kernel
theorem d_M_look_15 : decode b_M_look 15 = .ok (.lconst 1, 1) := by decide +kernel
theorem d_M_look_16 : decode b_M_look 16 = .ok (.ldc2_w 78, 3) := by decide +kernel
theorem d_M_look_19 : decode b_M_look 19 = .ok (.invokestatic 64, 3) := by decide +kernel
theorem d_M_look_22 : decode b_M_look 22 = .ok (.ifCond .ne 7, 3) := by decide +kernel
theorem d_M_look_25 : decode b_M_look 25 = .ok (.iconst 1, 1) := by decide +kernel
theorem d_M_look_26 : decode b_M_look 26 = .ok (.goto 27, 3) := by decide +kernel
theorem d_M_look_29 : decode b_M_look 29 = .ok (.aload_n 0, 1) := by decide +kernel
theorem d_M_look_30 : decode b_M_look 30 = .ok (.getfield 68, 3) := by decide +kernel
theorem d_M_look_33 : decode b_M_look 33 = .ok (.ifCond .ne 7, 3) := by decide +kernel
theorem d_M_look_36 : decode b_M_look 36 = .ok (.iconst 2, 1) := by decide +kernel
theorem d_M_look_37 : decode b_M_look 37 = .ok (.goto 16, 3) := by decide +kernel
theorem d_M_look_40 : decode b_M_look 40 = .ok (.iload_n 1, 1) := by decide +kernel
theorem d_M_look_41 : decode b_M_look 41 = .ok (.aload_n 0, 1) := by decide +kernel
theorem d_M_look_42 : decode b_M_look 42 = .ok (.invokevirtual 80, 3) := by decide +kernel
theorem d_M_look_45 : decode b_M_look 45 = .ok (.if_icmp .gt 7, 3) := by decide +kernel
theorem d_M_look_48 : decode b_M_look 48 = .ok (.iconst 1, 1) := by decide +kernel
theorem d_M_look_49 : decode b_M_look 49 = .ok (.goto 4, 3) := by decide +kernel
theorem d_M_look_52 : decode b_M_look 52 = .ok (.iconst 0, 1) := by decide +kernel
theorem d_M_look_53 : decode b_M_look 53 = .ok (.putfield 58, 3) := by decide +kernel
theorem d_M_look_56 : decode b_M_look 56 = .ok (.return_, 1) := by decide +kernel
theorem d_M_lookRough_0 : decode b_M_lookRough 0 = .ok (.aload_n 0, 1) := by decide +kernel
theorem d_M_lookRough_1 : decode b_M_lookRough 1 = .ok (.aload_n 0, 1) := by decide +kernel
theorem d_M_lookRough_2 : decode b_M_lookRough 2 = .ok (.iload_n 1, 1) := by decide +kernel
theorem d_M_lookRough_3 : decode b_M_lookRough 3 = .ok (.invokevirtual 117, 3) := by decide +kernel
theorem d_M_lookRough_6 : decode b_M_lookRough 6 = .ok (.ifCond .eq 19, 3) := by decide +kernel
theorem d_M_lookRough_9 : decode b_M_lookRough 9 = .ok (.iload_n 2, 1) := by decide +kernel
theorem d_M_lookRough_10 : decode b_M_lookRough 10 = .ok (.i2l, 1) := by decide +kernel
theorem d_M_lookRough_11 : decode b_M_lookRough 11 = .ok (.lconst 0, 1) := by decide +kernel
theorem d_M_lookRough_12 : decode b_M_lookRough 12 = .ok (.aload_n 0, 1) := by decide +kernel
theorem d_M_lookRough_13 : decode b_M_lookRough 13 = .ok (.getfield 132, 3) := by decide +kernel
theorem d_M_lookRough_16 : decode b_M_lookRough 16 = .ok (.iconst 1, 1) := by decide +kernel
theorem d_M_lookRough_17 : decode b_M_lookRough 17 = .ok (.isub, 1) := by decide +kernel
theorem d_M_lookRough_18 : decode b_M_lookRough 18 = .ok (.i2l, 1) := by decide +kernel
theorem d_M_lookRough_19 : decode b_M_lookRough 19 = .ok (.invokestatic 64, 3) := by decide +kernel
theorem d_M_lookRough_22 : decode b_M_lookRough 22 = .ok (.ifCond .ne 7, 3) := by decide +kernel
theorem d_M_lookRough_25 : decode b_M_lookRough 25 = .ok (.iconst 1, 1) := by decide +kernel
theorem d_M_lookRough_26 : decode b_M_lookRough 26 = .ok (.goto 33, 3) := by decide +kernel
theorem d_M_lookRough_29 : decode b_M_lookRough 29 = .ok (.iload_n 3, 1) := by decide +kernel
theorem d_M_lookRough_30 : decode b_M_lookRough 30 = .ok (.i2l, 1) := by decide +kernel
theorem d_M_lookRough_31 : decode b_M_lookRough 31 = .ok (.lconst 1, 1) := by decide +kernel
theorem d_M_lookRough_32 : decode b_M_lookRough 32 = .ok (.ldc2_w 138, 3) := by decide +kernel
theorem d_M_lookRough_35 : decode b_M_lookRough 35 = .ok (.invokestatic 64, 3) := by decide +kernel
theorem d_M_lookRough_38 : decode b_M_lookRough 38 = .ok (.ifCond .eq 16, 3) := by decide +kernel
theorem d_M_lookRough_41 : decode b_M_lookRough 41 = .ok (.iload 4, 2) := by decide +kernel
theorem d_M_lookRough_43 : decode b_M_lookRough 43 = .ok (.i2l, 1) := by decide +kernel
theorem d_M_lookRough_44 : decode b_M_lookRough 44 = .ok (.lconst 0, 1) := by decide +kernel
theorem d_M_lookRough_45 : decode b_M_lookRough 45 = .ok (.ldc2_w 140, 3) := by decide +kernel
theorem d_M_lookRough_48 : decode b_M_lookRough 48 = .ok (.invokestatic 64, 3) := by decide +kernel
theorem d_M_lookRough_51 : decode b_M_lookRough 51 = .ok (.ifCond .ne 7, 3) := by decide +kernel
theorem d_M_lookRough_54 : decode b_M_lookRough 54 = .ok (.iconst 2, 1) := by decide +kernel
theorem d_M_lookRough_55 : decode b_M_lookRough 55 = .ok (.goto 4, 3) := by decide +kernel
theorem d_M_lookRough_58 : decode b_M_lookRough 58 = .ok (.iconst 0, 1) := by decide +kernel
theorem d_M_lookRough_59 : decode b_M_lookRough 59 = .ok (.putfield 58, 3) := by decide +kernel
theorem d_M_lookRough_62 : decode b_M_lookRough 62 = .ok (.return_, 1) := by decide +kernel
theorem d_M_mitre_0 : decode b_M_mitre 0 = .ok (.iload_n 1, 1) := by decide +kernel
theorem d_M_mitre_1 : decode b_M_mitre 1 = .ok (.i2l, 1) := by decide +kernel
theorem d_M_mitre_2 : decode b_M_mitre 2 = .ok (.lconst 0, 1) := by decide +kernel
theorem d_M_mitre_3 : decode b_M_mitre 3 = .ok (.aload_n 0, 1) := by decide +kernel
theorem d_M_mitre_4 : decode b_M_mitre 4 = .ok (.getfield 160, 3) := by decide +kernel
theorem d_M_mitre_7 : decode b_M_mitre 7 = .ok (.iconst 1, 1) := by decide +kernel
theorem d_M_mitre_8 : decode b_M_mitre 8 = .ok (.isub, 1) := by decide +kernel
theorem d_M_mitre_9 : decode b_M_mitre 9 = .ok (.i2l, 1) := by decide +kernel
theorem d_M_mitre_10 : decode b_M_mitre 10 = .ok (.invokestatic 64, 3) := by decide +kernel
theorem d_M_mitre_13 : decode b_M_mitre 13 = .ok (.ifCond .eq 35, 3) := by decide +kernel
theorem d_M_mitre_16 : decode b_M_mitre 16 = .ok (.iload_n 2, 1) := by decide +kernel
theorem d_M_mitre_17 : decode b_M_mitre 17 = .ok (.i2l, 1) := by decide +kernel
theorem d_M_mitre_18 : decode b_M_mitre 18 = .ok (.lconst 0, 1) := by decide +kernel
theorem d_M_mitre_19 : decode b_M_mitre 19 = .ok (.aload_n 0, 1) := by decide +kernel
theorem d_M_mitre_20 : decode b_M_mitre 20 = .ok (.getfield 43, 3) := by decide +kernel
theorem d_M_mitre_23 : decode b_M_mitre 23 = .ok (.iload_n 1, 1) := by decide +kernel
theorem d_M_mitre_24 : decode b_M_mitre 24 = .ok (.iaload, 1) := by decide +kernel
theorem d_M_mitre_25 : decode b_M_mitre 25 = .ok (.iconst 1, 1) := by decide +kernel
theorem d_M_mitre_26 : decode b_M_mitre 26 = .ok (.isub, 1) := by decide +kernel
theorem d_M_mitre_27 : decode b_M_mitre 27 = .ok (.i2l, 1) := by decide +kernel
theorem d_M_mitre_28 : decode b_M_mitre 28 = .ok (.invokestatic 64, 3) := by decide +kernel
theorem d_M_mitre_31 : decode b_M_mitre 31 = .ok (.ifCond .eq 17, 3) := by decide +kernel
theorem d_M_mitre_34 : decode b_M_mitre 34 = .ok (.iload_n 3, 1) := by decide +kernel
theorem d_M_mitre_35 : decode b_M_mitre 35 = .ok (.i2l, 1) := by decide +kernel
theorem d_M_mitre_36 : decode b_M_mitre 36 = .ok (.lconst 0, 1) := by decide +kernel
theorem d_M_mitre_37 : decode b_M_mitre 37 = .ok (.lconst 1, 1) := by decide +kernel
theorem d_M_mitre_38 : decode b_M_mitre 38 = .ok (.invokestatic 64, 3) := by decide +kernel
theorem d_M_mitre_41 : decode b_M_mitre 41 = .ok (.ifCond .eq 7, 3) := by decide +kernel
theorem d_M_mitre_44 : decode b_M_mitre 44 = .ok (.iconst 1, 1) := by decide +kernel
theorem d_M_mitre_45 : decode b_M_mitre 45 = .ok (.goto 4, 3) := by decide +kernel
theorem d_M_mitre_48 : decode b_M_mitre 48 = .ok (.iconst 0, 1) := by decide +kernel
theorem d_M_mitre_49 : decode b_M_mitre 49 = .ok (.istore 4, 2) := by decide +kernel
theorem d_M_mitre_51 : decode b_M_mitre 51 = .ok (.aload_n 0, 1) := by decide +kernel
theorem d_M_mitre_52 : decode b_M_mitre 52 = .ok (.iload 4, 2) := by decide +kernel
theorem d_M_mitre_54 : decode b_M_mitre 54 = .ok (.ifCond .eq 7, 3) := by decide +kernel
theorem d_M_mitre_57 : decode b_M_mitre 57 = .ok (.iconst 0, 1) := by decide +kernel
theorem d_M_mitre_58 : decode b_M_mitre 58 = .ok (.goto 4, 3) := by decide +kernel
theorem d_M_mitre_61 : decode b_M_mitre 61 = .ok (.iconst 1, 1) := by decide +kernel
theorem d_M_mitre_62 : decode b_M_mitre 62 = .ok (.putfield 58, 3) := by decide +kernel
theorem d_M_mitre_65 : decode b_M_mitre 65 = .ok (.iload 4, 2) := by decide +kernel
theorem d_M_mitre_67 : decode b_M_mitre 67 = .ok (.ifCond .eq 38, 3) := by decide +kernel
theorem d_M_mitre_70 : decode b_M_mitre 70 = .ok (.aload_n 0, 1) := by decide +kernel
theorem d_M_mitre_71 : decode b_M_mitre 71 = .ok (.getfield 46, 3) := by decide +kernel
theorem d_M_mitre_74 : decode b_M_mitre 74 = .ok (.bipush 16, 2) := by decide +kernel
theorem d_M_mitre_76 : decode b_M_mitre 76 = .ok (.iload_n 1, 1) := by decide +kernel
theorem d_M_mitre_77 : decode b_M_mitre 77 = .ok (.imul, 1) := by decide +kernel
theorem d_M_mitre_78 : decode b_M_mitre 78 = .ok (.iload_n 2, 1) := by decide +kernel
theorem d_M_mitre_79 : decode b_M_mitre 79 = .ok (.iadd, 1) := by decide +kernel
theorem d_M_mitre_80 : decode b_M_mitre 80 = .ok (.iaload, 1) := by decide +kernel
theorem d_M_mitre_81 : decode b_M_mitre 81 = .ok (.i2l, 1) := by decide +kernel
theorem d_M_mitre_82 : decode b_M_mitre 82 = .ok (.ldc2_w 125, 3) := by decide +kernel
theorem d_M_mitre_85 : decode b_M_mitre 85 = .ok (.aload_n 0, 1) := by decide +kernel
theorem d_M_mitre_86 : decode b_M_mitre 86 = .ok (.getfield 49, 3) := by decide +kernel
theorem d_M_mitre_89 : decode b_M_mitre 89 = .ok (.bipush 16, 2) := by decide +kernel
theorem d_M_mitre_91 : decode b_M_mitre 91 = .ok (.iload_n 1, 1) := by decide +kernel
theorem d_M_mitre_92 : decode b_M_mitre 92 = .ok (.imul, 1) := by decide +kernel
theorem d_M_mitre_93 : decode b_M_mitre 93 = .ok (.iload_n 2, 1) := by decide +kernel
theorem d_M_mitre_94 : decode b_M_mitre 94 = .ok (.iadd, 1) := by decide +kernel
theorem d_M_mitre_95 : decode b_M_mitre 95 = .ok (.iaload, 1) := by decide +kernel
theorem d_M_mitre_96 : decode b_M_mitre 96 = .ok (.i2l, 1) := by decide +kernel
theorem d_M_mitre_97 : decode b_M_mitre 97 = .ok (.lmul, 1) := by decide +kernel
theorem d_M_mitre_98 : decode b_M_mitre 98 = .ok (.iload_n 3, 1) := by decide +kernel
theorem d_M_mitre_99 : decode b_M_mitre 99 = .ok (.invokestatic 165, 3) := by decide +kernel
theorem d_M_mitre_102 : decode b_M_mitre 102 = .ok (.goto 4, 3) := by decide +kernel
theorem d_M_mitre_105 : decode b_M_mitre 105 = .ok (.lconst 0, 1) := by decide +kernel
theorem d_M_mitre_106 : decode b_M_mitre 106 = .ok (.lreturn, 1) := by decide +kernel
