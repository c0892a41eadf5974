theorem d_M_nextHeld_0 : decode b_M_nextHeld 0 = .ok (.iload_n 3, 1) := by decide +kernel
theorem d_M_nextHeld_1 : decode b_M_nextHeld 1 = .ok (.iconst 1, 1) := by decide +kernel
theorem d_M_nextHeld_2 : decode b_M_nextHeld 2 = .ok (.iadd, 1) := by decide +kernel
theorem d_M_nextHeld_3 : decode b_M_nextHeld 3 = .ok (.istore 4, 2) := by decide +kernel
theorem d_M_nextHeld_5 : decode b_M_nextHeld 5 = .ok (.aload_n 0, 1) := by decide +kernel
theorem d_M_nextHeld_6 : decode b_M_nextHeld 6 = .ok (.getfield 31, 3) := by decide +kernel
theorem d_M_nextHeld_9 : decode b_M_nextHeld 9 = .ok (.bipush 65, 2) := by decide +kernel
theorem d_M_nextHeld_11 : decode b_M_nextHeld 11 = .ok (.iload_n 1, 1) := by decide +kernel
theorem d_M_nextHeld_12 : decode b_M_nextHeld 12 = .ok (.imul, 1) := by decide +kernel
theorem d_M_nextHeld_13 : decode b_M_nextHeld 13 = .ok (.iload_n 3, 1) := by decide +kernel
theorem d_M_nextHeld_14 : decode b_M_nextHeld 14 = .ok (.iadd, 1) := by decide +kernel
theorem d_M_nextHeld_15 : decode b_M_nextHeld 15 = .ok (.iaload, 1) := by decide +kernel
theorem d_M_nextHeld_16 : decode b_M_nextHeld 16 = .ok (.istore 5, 2) := by decide +kernel
theorem d_M_nextHeld_18 : decode b_M_nextHeld 18 = .ok (.iload_n 3, 1) := by decide +kernel
theorem d_M_nextHeld_19 : decode b_M_nextHeld 19 = .ok (.iconst 1, 1) := by decide +kernel
theorem d_M_nextHeld_20 : decode b_M_nextHeld 20 = .ok (.iadd, 1) := by decide +kernel
theorem d_M_nextHeld_21 : decode b_M_nextHeld 21 = .ok (.istore 6, 2) := by decide +kernel
theorem d_M_nextHeld_23 : decode b_M_nextHeld 23 = .ok (.iload 6, 2) := by decide +kernel
theorem d_M_nextHeld_25 : decode b_M_nextHeld 25 = .ok (.aload_n 0, 1) := by decide +kernel
theorem d_M_nextHeld_26 : decode b_M_nextHeld 26 = .ok (.getfield 25, 3) := by decide +kernel
theorem d_M_nextHeld_29 : decode b_M_nextHeld 29 = .ok (.iload_n 1, 1) := by decide +kernel
theorem d_M_nextHeld_30 : decode b_M_nextHeld 30 = .ok (.iaload, 1) := by decide +kernel
theorem d_M_nextHeld_31 : decode b_M_nextHeld 31 = .ok (.if_icmp .gt 59, 3) := by decide +kernel
theorem d_M_nextHeld_34 : decode b_M_nextHeld 34 = .ok (.aload_n 0, 1) := by decide +kernel
theorem d_M_nextHeld_35 : decode b_M_nextHeld 35 = .ok (.getfield 31, 3) := by decide +kernel
theorem d_M_nextHeld_38 : decode b_M_nextHeld 38 = .ok (.bipush 65, 2) := by decide +kernel
theorem d_M_nextHeld_40 : decode b_M_nextHeld 40 = .ok (.iload_n 1, 1) := by decide +kernel
theorem d_M_nextHeld_41 : decode b_M_nextHeld 41 = .ok (.imul, 1) := by decide +kernel
theorem d_M_nextHeld_42 : decode b_M_nextHeld 42 = .ok (.iload 6, 2) := by decide +kernel
theorem d_M_nextHeld_44 : decode b_M_nextHeld 44 = .ok (.iadd, 1) := by decide +kernel
theorem d_M_nextHeld_45 : decode b_M_nextHeld 45 = .ok (.iaload, 1) := by decide +kernel
theorem d_M_nextHeld_46 : decode b_M_nextHeld 46 = .ok (.istore 7, 2) := by decide +kernel
theorem d_M_nextHeld_48 : decode b_M_nextHeld 48 = .ok (.iload 7, 2) := by decide +kernel
theorem d_M_nextHeld_50 : decode b_M_nextHeld 50 = .ok (.iload 5, 2) := by decide +kernel
theorem d_M_nextHeld_52 : decode b_M_nextHeld 52 = .ok (.if_icmp .ge 8, 3) := by decide +kernel
theorem d_M_nextHeld_55 : decode b_M_nextHeld 55 = .ok (.iload 7, 2) := by decide +kernel
theorem d_M_nextHeld_57 : decode b_M_nextHeld 57 = .ok (.goto 5, 3) := by decide +kernel
theorem d_M_nextHeld_60 : decode b_M_nextHeld 60 = .ok (.iload 5, 2) := by decide +kernel
theorem d_M_nextHeld_62 : decode b_M_nextHeld 62 = .ok (.istore 5, 2) := by decide +kernel
theorem d_M_nextHeld_64 : decode b_M_nextHeld 64 = .ok (.iload 6, 2) := by decide +kernel
theorem d_M_nextHeld_66 : decode b_M_nextHeld 66 = .ok (.iload_n 3, 1) := by decide +kernel
theorem d_M_nextHeld_67 : decode b_M_nextHeld 67 = .ok (.isub, 1) := by decide +kernel
theorem d_M_nextHeld_68 : decode b_M_nextHeld 68 = .ok (.iload_n 2, 1) := by decide +kernel
theorem d_M_nextHeld_69 : decode b_M_nextHeld 69 = .ok (.imul, 1) := by decide +kernel
theorem d_M_nextHeld_70 : decode b_M_nextHeld 70 = .ok (.iload 5, 2) := by decide +kernel
theorem d_M_nextHeld_72 : decode b_M_nextHeld 72 = .ok (.if_icmp .gt 8, 3) := by decide +kernel
theorem d_M_nextHeld_75 : decode b_M_nextHeld 75 = .ok (.iload 6, 2) := by decide +kernel
theorem d_M_nextHeld_77 : decode b_M_nextHeld 77 = .ok (.goto 5, 3) := by decide +kernel
theorem d_M_nextHeld_80 : decode b_M_nextHeld 80 = .ok (.iload 4, 2) := by decide +kernel
theorem d_M_nextHeld_82 : decode b_M_nextHeld 82 = .ok (.istore 4, 2) := by decide +kernel
theorem d_M_nextHeld_84 : decode b_M_nextHeld 84 = .ok (.iinc 6 1, 3) := by decide +kernel
theorem d_M_nextHeld_87 : decode b_M_nextHeld 87 = .ok (.goto (-64), 3) := by decide +kernel
theorem d_M_nextHeld_90 : decode b_M_nextHeld 90 = .ok (.iload 4, 2) := by decide +kernel
theorem d_M_nextHeld_92 : decode b_M_nextHeld 92 = .ok (.ireturn, 1) := by decide +kernel
theorem d_M_onWay_0 : decode b_M_onWay 0 = .ok (.aload_n 0, 1) := by decide +kernel
theorem d_M_onWay_1 : decode b_M_onWay 1 = .ok (.getfield 16, 3) := by decide +kernel
theorem d_M_onWay_4 : decode b_M_onWay 4 = .ok (.iload_n 1, 1) := by decide +kernel
theorem d_M_onWay_5 : decode b_M_onWay 5 = .ok (.iaload, 1) := by decide +kernel
theorem d_M_onWay_6 : decode b_M_onWay 6 = .ok (.ifCond .ne 50, 3) := by decide +kernel
theorem d_M_onWay_9 : decode b_M_onWay 9 = .ok (.iload 4, 2) := by decide +kernel
theorem d_M_onWay_11 : decode b_M_onWay 11 = .ok (.iload_n 2, 1) := by decide +kernel
theorem d_M_onWay_12 : decode b_M_onWay 12 = .ok (.isub, 1) := by decide +kernel
theorem d_M_onWay_13 : decode b_M_onWay 13 = .ok (.aload_n 0, 1) := by decide +kernel
theorem d_M_onWay_14 : decode b_M_onWay 14 = .ok (.getfield 13, 3) := by decide +kernel
theorem d_M_onWay_17 : decode b_M_onWay 17 = .ok (.iload_n 1, 1) := by decide +kernel
theorem d_M_onWay_18 : decode b_M_onWay 18 = .ok (.iaload, 1) := by decide +kernel
theorem d_M_onWay_19 : decode b_M_onWay 19 = .ok (.iload_n 3, 1) := by decide +kernel
theorem d_M_onWay_20 : decode b_M_onWay 20 = .ok (.isub, 1) := by decide +kernel
theorem d_M_onWay_21 : decode b_M_onWay 21 = .ok (.imul, 1) := by decide +kernel
theorem d_M_onWay_22 : decode b_M_onWay 22 = .ok (.istore 5, 2) := by decide +kernel
theorem d_M_onWay_24 : decode b_M_onWay 24 = .ok (.aload_n 0, 1) := by decide +kernel
theorem d_M_onWay_25 : decode b_M_onWay 25 = .ok (.getfield 7, 3) := by decide +kernel
theorem d_M_onWay_28 : decode b_M_onWay 28 = .ok (.iload_n 1, 1) := by decide +kernel
theorem d_M_onWay_29 : decode b_M_onWay 29 = .ok (.iaload, 1) := by decide +kernel
theorem d_M_onWay_30 : decode b_M_onWay 30 = .ok (.iload_n 2, 1) := by decide +kernel
theorem d_M_onWay_31 : decode b_M_onWay 31 = .ok (.isub, 1) := by decide +kernel
theorem d_M_onWay_32 : decode b_M_onWay 32 = .ok (.istore 6, 2) := by decide +kernel
theorem d_M_onWay_34 : decode b_M_onWay 34 = .ok (.iload_n 3, 1) := by decide +kernel
theorem d_M_onWay_35 : decode b_M_onWay 35 = .ok (.iload 5, 2) := by decide +kernel
theorem d_M_onWay_37 : decode b_M_onWay 37 = .ok (.iload 6, 2) := by decide +kernel
theorem d_M_onWay_39 : decode b_M_onWay 39 = .ok (.idiv, 1) := by decide +kernel
theorem d_M_onWay_40 : decode b_M_onWay 40 = .ok (.iadd, 1) := by decide +kernel
theorem d_M_onWay_41 : decode b_M_onWay 41 = .ok (.iload 5, 2) := by decide +kernel
theorem d_M_onWay_43 : decode b_M_onWay 43 = .ok (.iload 6, 2) := by decide +kernel
theorem d_M_onWay_45 : decode b_M_onWay 45 = .ok (.irem, 1) := by decide +kernel
theorem d_M_onWay_46 : decode b_M_onWay 46 = .ok (.ifCond .ge 7, 3) := by decide +kernel
theorem d_M_onWay_49 : decode b_M_onWay 49 = .ok (.iconst 1, 1) := by decide +kernel
theorem d_M_onWay_50 : decode b_M_onWay 50 = .ok (.goto 4, 3) := by decide +kernel
theorem d_M_onWay_53 : decode b_M_onWay 53 = .ok (.iconst 0, 1) := by decide +kernel
theorem d_M_onWay_54 : decode b_M_onWay 54 = .ok (.isub, 1) := by decide +kernel
theorem d_M_onWay_55 : decode b_M_onWay 55 = .ok (.ireturn, 1) := by decide +kernel
theorem d_M_onWay_56 : decode b_M_onWay 56 = .ok (.iload_n 2, 1) := by decide +kernel
theorem d_M_onWay_57 : decode b_M_onWay 57 = .ok (.iload_n 3, 1) := by decide +kernel
theorem d_M_onWay_58 : decode b_M_onWay 58 = .ok (.aload_n 0, 1) := by decide +kernel
theorem d_M_onWay_59 : decode b_M_onWay 59 = .ok (.getfield 19, 3) := by decide +kernel
theorem d_M_onWay_62 : decode b_M_onWay 62 = .ok (.iload_n 1, 1) := by decide +kernel
theorem d_M_onWay_63 : decode b_M_onWay 63 = .ok (.iaload, 1) := by decide +kernel
theorem d_M_onWay_64 : decode b_M_onWay 64 = .ok (.aload_n 0, 1) := by decide +kernel
theorem d_M_onWay_65 : decode b_M_onWay 65 = .ok (.getfield 22, 3) := by decide +kernel
theorem d_M_onWay_68 : decode b_M_onWay 68 = .ok (.iload_n 1, 1) := by decide +kernel
theorem d_M_onWay_69 : decode b_M_onWay 69 = .ok (.iaload, 1) := by decide +kernel
theorem d_M_onWay_70 : decode b_M_onWay 70 = .ok (.invokestatic 103, 3) := by decide +kernel
theorem d_M_onWay_73 : decode b_M_onWay 73 = .ok (.iload 4, 2) := by decide +kernel
theorem d_M_onWay_75 : decode b_M_onWay 75 = .ok (.aload_n 0, 1) := by decide +kernel
theorem d_M_onWay_76 : decode b_M_onWay 76 = .ok (.getfield 19, 3) := by decide +kernel
theorem d_M_onWay_79 : decode b_M_onWay 79 = .ok (.iload_n 1, 1) := by decide +kernel
theorem d_M_onWay_80 : decode b_M_onWay 80 = .ok (.iaload, 1) := by decide +kernel
theorem d_M_onWay_81 : decode b_M_onWay 81 = .ok (.isub, 1) := by decide +kernel
theorem d_M_onWay_82 : decode b_M_onWay 82 = .ok (.iload 4, 2) := by decide +kernel
theorem d_M_onWay_84 : decode b_M_onWay 84 = .ok (.aload_n 0, 1) := by decide +kernel
theorem d_M_onWay_85 : decode b_M_onWay 85 = .ok (.getfield 19, 3) := by decide +kernel
theorem d_M_onWay_88 : decode b_M_onWay 88 = .ok (.iload_n 1, 1) := by decide +kernel
theorem d_M_onWay_89 : decode b_M_onWay 89 = .ok (.iaload, 1) := by decide +kernel
theorem d_M_onWay_90 : decode b_M_onWay 90 = .ok (.isub, 1) := by decide +kernel
theorem d_M_onWay_91 : decode b_M_onWay 91 = .ok (.imul, 1) := by decide +kernel
theorem d_M_onWay_92 : decode b_M_onWay 92 = .ok (.isub, 1) := by decide +kernel
theorem d_M_onWay_93 : decode b_M_onWay 93 = .ok (.invokestatic 107, 3) := by decide +kernel
theorem d_M_onWay_96 : decode b_M_onWay 96 = .ok (.istore 5, 2) := by decide +kernel
theorem d_M_onWay_98 : decode b_M_onWay 98 = .ok (.aload_n 0, 1) := by decide +kernel
theorem d_M_onWay_99 : decode b_M_onWay 99 = .ok (.getfield 16, 3) := by decide +kernel
theorem d_M_onWay_102 : decode b_M_onWay 102 = .ok (.iload_n 1, 1) := by decide +kernel
theorem d_M_onWay_103 : decode b_M_onWay 103 = .ok (.iaload, 1) := by decide +kernel
theorem d_M_onWay_104 : decode b_M_onWay 104 = .ok (.iconst 2, 1) := by decide +kernel
theorem d_M_onWay_105 : decode b_M_onWay 105 = .ok (.if_icmp .ne 15, 3) := by decide +kernel
theorem d_M_onWay_108 : decode b_M_onWay 108 = .ok (.aload_n 0, 1) := by decide +kernel
theorem d_M_onWay_109 : decode b_M_onWay 109 = .ok (.getfield 22, 3) := by decide +kernel
theorem d_M_onWay_112 : decode b_M_onWay 112 = .ok (.iload_n 1, 1) := by decide +kernel
theorem d_M_onWay_113 : decode b_M_onWay 113 = .ok (.iaload, 1) := by decide +kernel
theorem d_M_onWay_114 : decode b_M_onWay 114 = .ok (.iload 5, 2) := by decide +kernel
theorem d_M_onWay_116 : decode b_M_onWay 116 = .ok (.iadd, 1) := by decide +kernel
theorem d_M_onWay_117 : decode b_M_onWay 117 = .ok (.goto 12, 3) := by decide +kernel
theorem d_M_onWay_120 : decode b_M_onWay 120 = .ok (.aload_n 0, 1) := by decide +kernel
theorem d_M_onWay_121 : decode b_M_onWay 121 = .ok (.getfield 22, 3) := by decide +kernel
theorem d_M_onWay_124 : decode b_M_onWay 124 = .ok (.iload_n 1, 1) := by decide +kernel
theorem d_M_onWay_125 : decode b_M_onWay 125 = .ok (.iaload, 1) := by decide +kernel
theorem d_M_onWay_126 : decode b_M_onWay 126 = .ok (.iload 5, 2) := by decide +kernel
theorem d_M_onWay_128 : decode b_M_onWay 128 = .ok (.isub, 1) := by decide +kernel
theorem d_M_onWay_129 : decode b_M_onWay 129 = .ok (.istore 6, 2) := by decide +kernel
theorem d_M_onWay_131 : decode b_M_onWay 131 = .ok (.iload 6, 2) := by decide +kernel
theorem d_M_onWay_133 : decode b_M_onWay 133 = .ok (.ifCond .ge 7, 3) := by decide +kernel
theorem d_M_onWay_136 : decode b_M_onWay 136 = .ok (.iconst 0, 1) := by decide +kernel
theorem d_M_onWay_137 : decode b_M_onWay 137 = .ok (.goto 19, 3) := by decide +kernel
theorem d_M_onWay_140 : decode b_M_onWay 140 = .ok (.iload 6, 2) := by decide +kernel
theorem d_M_onWay_142 : decode b_M_onWay 142 = .ok (.sipush 500, 3) := by decide +kernel
theorem d_M_onWay_145 : decode b_M_onWay 145 = .ok (.if_icmp .le 9, 3) := by decide +kernel
theorem d_M_onWay_148 : decode b_M_onWay 148 = .ok (.sipush 500, 3) := by decide +kernel
theorem d_M_onWay_151 : decode b_M_onWay 151 = .ok (.goto 5, 3) := by decide +kernel
theorem d_M_onWay_154 : decode b_M_onWay 154 = .ok (.iload 6, 2) := by decide +kernel
theorem d_M_onWay_156 : decode b_M_onWay 156 = .ok (.ireturn, 1) := by decide +kernel
theorem d_M_partOf_0 : decode b_M_partOf 0 = .ok (.lload_n 0, 1) := by decide +kernel
theorem d_M_partOf_1 : decode b_M_partOf 1 = .ok (.lconst 0, 1) := by decide +kernel
theorem d_M_partOf_2 : decode b_M_partOf 2 = .ok (.lcmp, 1) := by decide +kernel
theorem d_M_partOf_3 : decode b_M_partOf 3 = .ok (.ifCond .ge 8, 3) := by decide +kernel
theorem d_M_partOf_6 : decode b_M_partOf 6 = .ok (.lload_n 0, 1) := by decide +kernel
theorem d_M_partOf_7 : decode b_M_partOf 7 = .ok (.lneg, 1) := by decide +kernel
theorem d_M_partOf_8 : decode b_M_partOf 8 = .ok (.goto 4, 3) := by decide +kernel
theorem d_M_partOf_11 : decode b_M_partOf 11 = .ok (.lload_n 0, 1) := by decide +kernel
theorem d_M_partOf_12 : decode b_M_partOf 12 = .ok (.lstore 5, 2) := by decide +kernel
theorem d_M_partOf_14 : decode b_M_partOf 14 = .ok (.lload_n 2, 1) := by decide +kernel
theorem d_M_partOf_15 : decode b_M_partOf 15 = .ok (.lstore 7, 2) := by decide +kernel
theorem d_M_partOf_17 : decode b_M_partOf 17 = .ok (.lload 7, 2) := by decide +kernel
theorem d_M_partOf_19 : decode b_M_partOf 19 = .ok (.lconst 0, 1) := by decide +kernel
theorem d_M_partOf_20 : decode b_M_partOf 20 = .ok (.lcmp, 1) := by decide +kernel
theorem d_M_partOf_21 : decode b_M_partOf 21 = .ok (.ifCond .eq 21, 3) := by decide +kernel
theorem d_M_partOf_24 : decode b_M_partOf 24 = .ok (.lload 5, 2) := by decide +kernel
theorem d_M_partOf_26 : decode b_M_partOf 26 = .ok (.lload 7, 2) := by decide +kernel
theorem d_M_partOf_28 : decode b_M_partOf 28 = .ok (.lrem, 1) := by decide +kernel
theorem d_M_partOf_29 : decode b_M_partOf 29 = .ok (.lstore 9, 2) := by decide +kernel
theorem d_M_partOf_31 : decode b_M_partOf 31 = .ok (.lload 7, 2) := by decide +kernel
theorem d_M_partOf_33 : decode b_M_partOf 33 = .ok (.lstore 5, 2) := by decide +kernel
theorem d_M_partOf_35 : decode b_M_partOf 35 = .ok (.lload 9, 2) := by decide +kernel
theorem d_M_partOf_37 : decode b_M_partOf 37 = .ok (.lstore 7, 2) := by decide +kernel
theorem d_M_partOf_39 : decode b_M_partOf 39 = .ok (.goto (-22), 3) := by decide +kernel
theorem d_M_partOf_42 : decode b_M_partOf 42 = .ok (.iload 4, 2) := by decide +kernel
theorem d_M_partOf_44 : decode b_M_partOf 44 = .ok (.ifCond .ne 10, 3) := by decide +kernel
theorem d_M_partOf_47 : decode b_M_partOf 47 = .ok (.lload_n 0, 1) := by decide +kernel
theorem d_M_partOf_48 : decode b_M_partOf 48 = .ok (.lload 5, 2) := by decide +kernel
theorem d_M_partOf_50 : decode b_M_partOf 50 = .ok (.ldiv, 1) := by decide +kernel
theorem d_M_partOf_51 : decode b_M_partOf 51 = .ok (.goto 7, 3) := by decide +kernel
theorem d_M_partOf_54 : decode b_M_partOf 54 = .ok (.lload_n 2, 1) := by decide +kernel
theorem d_M_partOf_55 : decode b_M_partOf 55 = .ok (.lload 5, 2) := by decide +kernel
theorem d_M_partOf_57 : decode b_M_partOf 57 = .ok (.ldiv, 1) := by decide +kernel
theorem d_M_partOf_58 : decode b_M_partOf 58 = .ok (.lreturn, 1) := by decide +kernel
theorem d_M_passes_0 : decode b_M_passes 0 = .ok (.aload_n 0, 1) := by decide +kernel
theorem d_M_passes_1 : decode b_M_passes 1 = .ok (.iload_n 1, 1) := by decide +kernel
theorem d_M_passes_2 : decode b_M_passes 2 = .ok (.iload_n 2, 1) := by decide +kernel
theorem d_M_passes_3 : decode b_M_passes 3 = .ok (.iload_n 3, 1) := by decide +kernel
theorem d_M_passes_4 : decode b_M_passes 4 = .ok (.iload 4, 2) := by decide +kernel
theorem d_M_passes_6 : decode b_M_passes 6 = .ok (.invokevirtual 142, 3) := by decide +kernel
theorem d_M_passes_9 : decode b_M_passes 9 = .ok (.aload_n 0, 1) := by decide +kernel
theorem d_M_passes_10 : decode b_M_passes 10 = .ok (.getfield 58, 3) := by decide +kernel
theorem d_M_passes_13 : decode b_M_passes 13 = .ok (.ifCond .le 5, 3) := by decide +kernel
theorem d_M_passes_16 : decode b_M_passes 16 = .ok (.iconst 0, 1) := by decide +kernel
theorem d_M_passes_17 : decode b_M_passes 17 = .ok (.ireturn, 1) := by decide +kernel
theorem d_M_passes_18 : decode b_M_passes 18 = .ok (.aload_n 0, 1) := by decide +kernel
theorem d_M_passes_19 : decode b_M_passes 19 = .ok (.iload_n 1, 1) := by decide +kernel
theorem d_M_passes_20 : decode b_M_passes 20 = .ok (.iload_n 2, 1) := by decide +kernel
theorem d_M_passes_21 : decode b_M_passes 21 = .ok (.invokevirtual 135, 3) := by decide +kernel
theorem d_M_passes_24 : decode b_M_passes 24 = .ok (.iconst 0, 1) := by decide +kernel
theorem d_M_passes_25 : decode b_M_passes 25 = .ok (.istore 5, 2) := by decide +kernel
theorem d_M_passes_27 : decode b_M_passes 27 = .ok (.aload_n 0, 1) := by decide +kernel
theorem d_M_passes_28 : decode b_M_passes 28 = .ok (.iload_n 1, 1) := by decide +kernel
theorem d_M_passes_29 : decode b_M_passes 29 = .ok (.iload 4, 2) := by decide +kernel
theorem d_M_passes_31 : decode b_M_passes 31 = .ok (.aload_n 0, 1) := by decide +kernel
theorem d_M_passes_32 : decode b_M_passes 32 = .ok (.iload_n 1, 1) := by decide +kernel
theorem d_M_passes_33 : decode b_M_passes 33 = .ok (.invokevirtual 127, 3) := by decide +kernel
theorem d_M_passes_36 : decode b_M_passes 36 = .ok (.i2l, 1) := by decide +kernel
theorem d_M_passes_37 : decode b_M_passes 37 = .ok (.iload 5, 2) := by decide +kernel
theorem d_M_passes_39 : decode b_M_passes 39 = .ok (.i2l, 1) := by decide +kernel
theorem d_M_passes_40 : decode b_M_passes 40 = .ok (.iload_n 3, 1) := by decide +kernel
theorem d_M_passes_41 : decode b_M_passes 41 = .ok (.i2l, 1) := by decide +kernel
theorem d_M_passes_42 : decode b_M_passes 42 = .ok (.lmul, 1) := by decide +kernel
theorem d_M_passes_43 : decode b_M_passes 43 = .ok (.lsub, 1) := by decide +kernel
theorem d_M_passes_44 : decode b_M_passes 44 = .ok (.invokevirtual 146, 3) := by decide +kernel
theorem d_M_passes_47 : decode b_M_passes 47 = .ok (.ifCond .le 9, 3) := by decide +kernel
theorem d_M_passes_50 : decode b_M_passes 50 = .ok (.iinc 5 1, 3) := by decide +kernel
theorem d_M_passes_53 : decode b_M_passes 53 = .ok (.goto (-26), 3) := by decide +kernel
theorem d_M_passes_56 : decode b_M_passes 56 = .ok (.iload 5, 2) := by decide +kernel
theorem d_M_passes_58 : decode b_M_passes 58 = .ok (.ireturn, 1) := by decide +kernel
theorem d_M_radius_0 : decode b_M_radius 0 = .ok (.aload_n 0, 1) := by decide +kernel
theorem d_M_radius_1 : decode b_M_radius 1 = .ok (.aload_n 0, 1) := by decide +kernel
theorem d_M_radius_2 : decode b_M_radius 2 = .ok (.iload_n 1, 1) := by decide +kernel
theorem d_M_radius_3 : decode b_M_radius 3 = .ok (.iload_n 2, 1) := by decide +kernel
theorem d_M_radius_4 : decode b_M_radius 4 = .ok (.invokevirtual 121, 3) := by decide +kernel
theorem d_M_radius_7 : decode b_M_radius 7 = .ok (.ifCond .eq 7, 3) := by decide +kernel
theorem d_M_radius_10 : decode b_M_radius 10 = .ok (.iconst 0, 1) := by decide +kernel
theorem d_M_radius_11 : decode b_M_radius 11 = .ok (.goto 4, 3) := by decide +kernel
theorem d_M_radius_14 : decode b_M_radius 14 = .ok (.iconst 1, 1) := by decide +kernel
theorem d_M_radius_15 : decode b_M_radius 15 = .ok (.putfield 58, 3) := by decide +kernel
theorem d_M_radius_18 : decode b_M_radius 18 = .ok (.aload_n 0, 1) := by decide +kernel
theorem d_M_radius_19 : decode b_M_radius 19 = .ok (.getfield 58, 3) := by decide +kernel
theorem d_M_radius_22 : decode b_M_radius 22 = .ok (.ifCond .le 7, 3) := by decide +kernel
theorem d_M_radius_25 : decode b_M_radius 25 = .ok (.iconst 0, 1) := by decide +kernel
theorem d_M_radius_26 : decode b_M_radius 26 = .ok (.goto 14, 3) := by decide +kernel
theorem d_M_radius_29 : decode b_M_radius 29 = .ok (.aload_n 0, 1) := by decide +kernel
theorem d_M_radius_30 : decode b_M_radius 30 = .ok (.getfield 31, 3) := by decide +kernel
theorem d_M_radius_33 : decode b_M_radius 33 = .ok (.bipush 65, 2) := by decide +kernel
theorem d_M_radius_35 : decode b_M_radius 35 = .ok (.iload_n 1, 1) := by decide +kernel
theorem d_M_radius_36 : decode b_M_radius 36 = .ok (.imul, 1) := by decide +kernel
theorem d_M_radius_37 : decode b_M_radius 37 = .ok (.iload_n 2, 1) := by decide +kernel
theorem d_M_radius_38 : decode b_M_radius 38 = .ok (.iadd, 1) := by decide +kernel
theorem d_M_radius_39 : decode b_M_radius 39 = .ok (.iaload, 1) := by decide +kernel
theorem d_M_radius_40 : decode b_M_radius 40 = .ok (.ireturn, 1) := by decide +kernel
theorem d_M_reachAll_0 : decode b_M_reachAll 0 = .ok (.aload_n 0, 1) := by decide +kernel
theorem d_M_reachAll_1 : decode b_M_reachAll 1 = .ok (.getfield 34, 3) := by decide +kernel
theorem d_M_reachAll_4 : decode b_M_reachAll 4 = .ok (.iload_n 2, 1) := by decide +kernel
theorem d_M_reachAll_5 : decode b_M_reachAll 5 = .ok (.iaload, 1) := by decide +kernel
theorem d_M_reachAll_6 : decode b_M_reachAll 6 = .ok (.istore_n 3, 1) := by decide +kernel
theorem d_M_reachAll_7 : decode b_M_reachAll 7 = .ok (.iconst 0, 1) := by decide +kernel
theorem d_M_reachAll_8 : decode b_M_reachAll 8 = .ok (.istore 4, 2) := by decide +kernel
theorem d_M_reachAll_10 : decode b_M_reachAll 10 = .ok (.iload 4, 2) := by decide +kernel
theorem d_M_reachAll_12 : decode b_M_reachAll 12 = .ok (.aload_n 0, 1) := by decide +kernel
theorem d_M_reachAll_13 : decode b_M_reachAll 13 = .ok (.getfield 25, 3) := by decide +kernel
theorem d_M_reachAll_16 : decode b_M_reachAll 16 = .ok (.iload_n 1, 1) := by decide +kernel
theorem d_M_reachAll_17 : decode b_M_reachAll 17 = .ok (.iaload, 1) := by decide +kernel
theorem d_M_reachAll_18 : decode b_M_reachAll 18 = .ok (.if_icmp .gt 118, 3) := by decide +kernel
theorem d_M_reachAll_21 : decode b_M_reachAll 21 = .ok (.aload_n 0, 1) := by decide +kernel
theorem d_M_reachAll_22 : decode b_M_reachAll 22 = .ok (.getfield 37, 3) := by decide +kernel
theorem d_M_reachAll_25 : decode b_M_reachAll 25 = .ok (.iload 4, 2) := by decide +kernel
theorem d_M_reachAll_27 : decode b_M_reachAll 27 = .ok (.iconst 0, 1) := by decide +kernel
theorem d_M_reachAll_28 : decode b_M_reachAll 28 = .ok (.iastore, 1) := by decide +kernel
theorem d_M_reachAll_29 : decode b_M_reachAll 29 = .ok (.iload_n 3, 1) := by decide +kernel
theorem d_M_reachAll_30 : decode b_M_reachAll 30 = .ok (.ineg, 1) := by decide +kernel
theorem d_M_reachAll_31 : decode b_M_reachAll 31 = .ok (.istore 5, 2) := by decide +kernel
theorem d_M_reachAll_33 : decode b_M_reachAll 33 = .ok (.iload 5, 2) := by decide +kernel
theorem d_M_reachAll_35 : decode b_M_reachAll 35 = .ok (.iload_n 3, 1) := by decide +kernel
theorem d_M_reachAll_36 : decode b_M_reachAll 36 = .ok (.if_icmp .gt 94, 3) := by decide +kernel
theorem d_M_reachAll_39 : decode b_M_reachAll 39 = .ok (.iload 4, 2) := by decide +kernel
theorem d_M_reachAll_41 : decode b_M_reachAll 41 = .ok (.iload 5, 2) := by decide +kernel
theorem d_M_reachAll_43 : decode b_M_reachAll 43 = .ok (.iadd, 1) := by decide +kernel
theorem d_M_reachAll_44 : decode b_M_reachAll 44 = .ok (.i2l, 1) := by decide +kernel
theorem d_M_reachAll_45 : decode b_M_reachAll 45 = .ok (.lconst 0, 1) := by decide +kernel
theorem d_M_reachAll_46 : decode b_M_reachAll 46 = .ok (.aload_n 0, 1) := by decide +kernel
theorem d_M_reachAll_47 : decode b_M_reachAll 47 = .ok (.getfield 25, 3) := by decide +kernel
theorem d_M_reachAll_50 : decode b_M_reachAll 50 = .ok (.iload_n 1, 1) := by decide +kernel
theorem d_M_reachAll_51 : decode b_M_reachAll 51 = .ok (.iaload, 1) := by decide +kernel
theorem d_M_reachAll_52 : decode b_M_reachAll 52 = .ok (.i2l, 1) := by decide +kernel
theorem d_M_reachAll_53 : decode b_M_reachAll 53 = .ok (.invokestatic 64, 3) := by decide +kernel
theorem d_M_reachAll_56 : decode b_M_reachAll 56 = .ok (.ifCond .eq 34, 3) := by decide +kernel
theorem d_M_reachAll_59 : decode b_M_reachAll 59 = .ok (.aload_n 0, 1) := by decide +kernel
theorem d_M_reachAll_60 : decode b_M_reachAll 60 = .ok (.getfield 31, 3) := by decide +kernel
theorem d_M_reachAll_63 : decode b_M_reachAll 63 = .ok (.bipush 65, 2) := by decide +kernel
theorem d_M_reachAll_65 : decode b_M_reachAll 65 = .ok (.iload_n 1, 1) := by decide +kernel
theorem d_M_reachAll_66 : decode b_M_reachAll 66 = .ok (.imul, 1) := by decide +kernel
theorem d_M_reachAll_67 : decode b_M_reachAll 67 = .ok (.iload 4, 2) := by decide +kernel
theorem d_M_reachAll_69 : decode b_M_reachAll 69 = .ok (.iadd, 1) := by decide +kernel
theorem d_M_reachAll_70 : decode b_M_reachAll 70 = .ok (.iload 5, 2) := by decide +kernel
theorem d_M_reachAll_72 : decode b_M_reachAll 72 = .ok (.iadd, 1) := by decide +kernel
theorem d_M_reachAll_73 : decode b_M_reachAll 73 = .ok (.iaload, 1) := by decide +kernel
theorem d_M_reachAll_74 : decode b_M_reachAll 74 = .ok (.iload_n 3, 1) := by decide +kernel
theorem d_M_reachAll_75 : decode b_M_reachAll 75 = .ok (.iload_n 3, 1) := by decide +kernel
theorem d_M_reachAll_76 : decode b_M_reachAll 76 = .ok (.imul, 1) := by decide +kernel
theorem d_M_reachAll_77 : decode b_M_reachAll 77 = .ok (.iload 5, 2) := by decide +kernel
theorem d_M_reachAll_79 : decode b_M_reachAll 79 = .ok (.iload 5, 2) := by decide +kernel
theorem d_M_reachAll_81 : decode b_M_reachAll 81 = .ok (.imul, 1) := by decide +kernel
theorem d_M_reachAll_82 : decode b_M_reachAll 82 = .ok (.isub, 1) := by decide +kernel
theorem d_M_reachAll_83 : decode b_M_reachAll 83 = .ok (.invokestatic 107, 3) := by decide +kernel
theorem d_M_reachAll_86 : decode b_M_reachAll 86 = .ok (.iadd, 1) := by decide +kernel
theorem d_M_reachAll_87 : decode b_M_reachAll 87 = .ok (.goto 4, 3) := by decide +kernel
theorem d_M_reachAll_90 : decode b_M_reachAll 90 = .ok (.iconst 0, 1) := by decide +kernel
theorem d_M_reachAll_91 : decode b_M_reachAll 91 = .ok (.istore 6, 2) := by decide +kernel
theorem d_M_reachAll_93 : decode b_M_reachAll 93 = .ok (.aload_n 0, 1) := by decide +kernel
theorem d_M_reachAll_94 : decode b_M_reachAll 94 = .ok (.getfield 37, 3) := by decide +kernel
theorem d_M_reachAll_97 : decode b_M_reachAll 97 = .ok (.iload 4, 2) := by decide +kernel
theorem d_M_reachAll_99 : decode b_M_reachAll 99 = .ok (.iload 6, 2) := by decide +kernel
theorem d_M_reachAll_101 : decode b_M_reachAll 101 = .ok (.aload_n 0, 1) := by decide +kernel
theorem d_M_reachAll_102 : decode b_M_reachAll 102 = .ok (.getfield 37, 3) := by decide +kernel
theorem d_M_reachAll_105 : decode b_M_reachAll 105 = .ok (.iload 4, 2) := by decide +kernel
theorem d_M_reachAll_107 : decode b_M_reachAll 107 = .ok (.iaload, 1) := by decide +kernel
theorem d_M_reachAll_108 : decode b_M_reachAll 108 = .ok (.if_icmp .le 8, 3) := by decide +kernel
theorem d_M_reachAll_111 : decode b_M_reachAll 111 = .ok (.iload 6, 2) := by decide +kernel
theorem d_M_reachAll_113 : decode b_M_reachAll 113 = .ok (.goto 10, 3) := by decide +kernel
theorem d_M_reachAll_116 : decode b_M_reachAll 116 = .ok (.aload_n 0, 1) := by decide +kernel
theorem d_M_reachAll_117 : decode b_M_reachAll 117 = .ok (.getfield 37, 3) := by decide +kernel
theorem d_M_reachAll_120 : decode b_M_reachAll 120 = .ok (.iload 4, 2) := by decide +kernel
theorem d_M_reachAll_122 : decode b_M_reachAll 122 = .ok (.iaload, 1) := by decide +kernel
theorem d_M_reachAll_123 : decode b_M_reachAll 123 = .ok (.iastore, 1) := by decide +kernel
theorem d_M_reachAll_124 : decode b_M_reachAll 124 = .ok (.iinc 5 1, 3) := by decide +kernel
theorem d_M_reachAll_127 : decode b_M_reachAll 127 = .ok (.goto (-94), 3) := by decide +kernel
theorem d_M_reachAll_130 : decode b_M_reachAll 130 = .ok (.iinc 4 1, 3) := by decide +kernel
theorem d_M_reachAll_133 : decode b_M_reachAll 133 = .ok (.goto (-123), 3) := by decide +kernel
theorem d_M_reachAll_136 : decode b_M_reachAll 136 = .ok (.iconst 0, 1) := by decide +kernel
theorem d_M_reachAll_137 : decode b_M_reachAll 137 = .ok (.istore 4, 2) := by decide +kernel
theorem d_M_reachAll_139 : decode b_M_reachAll 139 = .ok (.iload 4, 2) := by decide +kernel
theorem d_M_reachAll_141 : decode b_M_reachAll 141 = .ok (.aload_n 0, 1) := by decide +kernel
theorem d_M_reachAll_142 : decode b_M_reachAll 142 = .ok (.getfield 25, 3) := by decide +kernel
theorem d_M_reachAll_145 : decode b_M_reachAll 145 = .ok (.iload_n 1, 1) := by decide +kernel
theorem d_M_reachAll_146 : decode b_M_reachAll 146 = .ok (.iaload, 1) := by decide +kernel
theorem d_M_reachAll_147 : decode b_M_reachAll 147 = .ok (.if_icmp .gt 117, 3) := by decide +kernel
theorem d_M_reachAll_150 : decode b_M_reachAll 150 = .ok (.aload_n 0, 1) := by decide +kernel
theorem d_M_reachAll_151 : decode b_M_reachAll 151 = .ok (.getfield 40, 3) := by decide +kernel
theorem d_M_reachAll_154 : decode b_M_reachAll 154 = .ok (.iload 4, 2) := by decide +kernel
theorem d_M_reachAll_156 : decode b_M_reachAll 156 = .ok (.sipush 10000, 3) := by decide +kernel
theorem d_M_reachAll_159 : decode b_M_reachAll 159 = .ok (.iastore, 1) := by decide +kernel
theorem d_M_reachAll_160 : decode b_M_reachAll 160 = .ok (.iload_n 3, 1) := by decide +kernel
theorem d_M_reachAll_161 : decode b_M_reachAll 161 = .ok (.ineg, 1) := by decide +kernel
theorem d_M_reachAll_162 : decode b_M_reachAll 162 = .ok (.istore 5, 2) := by decide +kernel
theorem d_M_reachAll_164 : decode b_M_reachAll 164 = .ok (.iload 5, 2) := by decide +kernel
theorem d_M_reachAll_166 : decode b_M_reachAll 166 = .ok (.iload_n 3, 1) := by decide +kernel
theorem d_M_reachAll_167 : decode b_M_reachAll 167 = .ok (.if_icmp .gt 91, 3) := by decide +kernel
theorem d_M_reachAll_170 : decode b_M_reachAll 170 = .ok (.iload 4, 2) := by decide +kernel
theorem d_M_reachAll_172 : decode b_M_reachAll 172 = .ok (.iload 5, 2) := by decide +kernel
theorem d_M_reachAll_174 : decode b_M_reachAll 174 = .ok (.iadd, 1) := by decide +kernel
theorem d_M_reachAll_175 : decode b_M_reachAll 175 = .ok (.i2l, 1) := by decide +kernel
theorem d_M_reachAll_176 : decode b_M_reachAll 176 = .ok (.lconst 0, 1) := by decide +kernel
theorem d_M_reachAll_177 : decode b_M_reachAll 177 = .ok (.aload_n 0, 1) := by decide +kernel
theorem d_M_reachAll_178 : decode b_M_reachAll 178 = .ok (.getfield 25, 3) := by decide +kernel
theorem d_M_reachAll_181 : decode b_M_reachAll 181 = .ok (.iload_n 1, 1) := by decide +kernel
theorem d_M_reachAll_182 : decode b_M_reachAll 182 = .ok (.iaload, 1) := by decide +kernel
theorem d_M_reachAll_183 : decode b_M_reachAll 183 = .ok (.i2l, 1) := by decide +kernel
theorem d_M_reachAll_184 : decode b_M_reachAll 184 = .ok (.invokestatic 64, 3) := by decide +kernel
theorem d_M_reachAll_187 : decode b_M_reachAll 187 = .ok (.ifCond .eq 29, 3) := by decide +kernel
theorem d_M_reachAll_190 : decode b_M_reachAll 190 = .ok (.aload_n 0, 1) := by decide +kernel
theorem d_M_reachAll_191 : decode b_M_reachAll 191 = .ok (.getfield 37, 3) := by decide +kernel
theorem d_M_reachAll_194 : decode b_M_reachAll 194 = .ok (.iload 4, 2) := by decide +kernel
theorem d_M_reachAll_196 : decode b_M_reachAll 196 = .ok (.iload 5, 2) := by decide +kernel
theorem d_M_reachAll_198 : decode b_M_reachAll 198 = .ok (.iadd, 1) := by decide +kernel
theorem d_M_reachAll_199 : decode b_M_reachAll 199 = .ok (.iaload, 1) := by decide +kernel
theorem d_M_reachAll_200 : decode b_M_reachAll 200 = .ok (.iload_n 3, 1) := by decide +kernel
theorem d_M_reachAll_201 : decode b_M_reachAll 201 = .ok (.iload_n 3, 1) := by decide +kernel
theorem d_M_reachAll_202 : decode b_M_reachAll 202 = .ok (.imul, 1) := by decide +kernel
theorem d_M_reachAll_203 : decode b_M_reachAll 203 = .ok (.iload 5, 2) := by decide +kernel
theorem d_M_reachAll_205 : decode b_M_reachAll 205 = .ok (.iload 5, 2) := by decide +kernel
theorem d_M_reachAll_207 : decode b_M_reachAll 207 = .ok (.imul, 1) := by decide +kernel
theorem d_M_reachAll_208 : decode b_M_reachAll 208 = .ok (.isub, 1) := by decide +kernel
theorem d_M_reachAll_209 : decode b_M_reachAll 209 = .ok (.invokestatic 107, 3) := by decide +kernel
theorem d_M_reachAll_212 : decode b_M_reachAll 212 = .ok (.isub, 1) := by decide +kernel
theorem d_M_reachAll_213 : decode b_M_reachAll 213 = .ok (.goto 6, 3) := by decide +kernel
theorem d_M_reachAll_216 : decode b_M_reachAll 216 = .ok (.sipush 10000, 3) := by decide +kernel
theorem d_M_reachAll_219 : decode b_M_reachAll 219 = .ok (.istore 6, 2) := by decide +kernel
theorem d_M_reachAll_221 : decode b_M_reachAll 221 = .ok (.aload_n 0, 1) := by decide +kernel
theorem d_M_reachAll_222 : decode b_M_reachAll 222 = .ok (.getfield 40, 3) := by decide +kernel
theorem d_M_reachAll_225 : decode b_M_reachAll 225 = .ok (.iload 4, 2) := by decide +kernel
theorem d_M_reachAll_227 : decode b_M_reachAll 227 = .ok (.iload 6, 2) := by decide +kernel
theorem d_M_reachAll_229 : decode b_M_reachAll 229 = .ok (.aload_n 0, 1) := by decide +kernel
theorem d_M_reachAll_230 : decode b_M_reachAll 230 = .ok (.getfield 40, 3) := by decide +kernel
theorem d_M_reachAll_233 : decode b_M_reachAll 233 = .ok (.iload 4, 2) := by decide +kernel
theorem d_M_reachAll_235 : decode b_M_reachAll 235 = .ok (.iaload, 1) := by decide +kernel
theorem d_M_reachAll_236 : decode b_M_reachAll 236 = .ok (.if_icmp .ge 8, 3) := by decide +kernel
theorem d_M_reachAll_239 : decode b_M_reachAll 239 = .ok (.iload 6, 2) := by decide +kernel
theorem d_M_reachAll_241 : decode b_M_reachAll 241 = .ok (.goto 10, 3) := by decide +kernel
theorem d_M_reachAll_244 : decode b_M_reachAll 244 = .ok (.aload_n 0, 1) := by decide +kernel
theorem d_M_reachAll_245 : decode b_M_reachAll 245 = .ok (.getfield 40, 3) := by decide +kernel
theorem d_M_reachAll_248 : decode b_M_reachAll 248 = .ok (.iload 4, 2) := by decide +kernel
theorem d_M_reachAll_250 : decode b_M_reachAll 250 = .ok (.iaload, 1) := by decide +kernel
theorem d_M_reachAll_251 : decode b_M_reachAll 251 = .ok (.iastore, 1) := by decide +kernel
theorem d_M_reachAll_252 : decode b_M_reachAll 252 = .ok (.iinc 5 1, 3) := by decide +kernel
theorem d_M_reachAll_255 : decode b_M_reachAll 255 = .ok (.goto (-91), 3) := by decide +kernel
theorem d_M_reachAll_258 : decode b_M_reachAll 258 = .ok (.iinc 4 1, 3) := by decide +kernel
theorem d_M_reachAll_261 : decode b_M_reachAll 261 = .ok (.goto (-122), 3) := by decide +kernel
theorem d_M_reachAll_264 : decode b_M_reachAll 264 = .ok (.return_, 1) := by decide +kernel
theorem d_M_reached_0 : decode b_M_reached 0 = .ok (.aload_n 0, 1) := by decide +kernel
theorem d_M_reached_1 : decode b_M_reached 1 = .ok (.aload_n 0, 1) := by decide +kernel
theorem d_M_reached_2 : decode b_M_reached 2 = .ok (.iload_n 1, 1) := by decide +kernel
theorem d_M_reached_3 : decode b_M_reached 3 = .ok (.iload_n 3, 1) := by decide +kernel
theorem d_M_reached_4 : decode b_M_reached 4 = .ok (.invokevirtual 121, 3) := by decide +kernel
theorem d_M_reached_7 : decode b_M_reached 7 = .ok (.ifCond .eq 23, 3) := by decide +kernel
theorem d_M_reached_10 : decode b_M_reached 10 = .ok (.iload_n 2, 1) := by decide +kernel
theorem d_M_reached_11 : decode b_M_reached 11 = .ok (.i2l, 1) := by decide +kernel
theorem d_M_reached_12 : decode b_M_reached 12 = .ok (.lconst 0, 1) := by decide +kernel
theorem d_M_reached_13 : decode b_M_reached 13 = .ok (.aload_n 0, 1) := by decide +kernel
theorem d_M_reached_14 : decode b_M_reached 14 = .ok (.getfield 132, 3) := by decide +kernel
theorem d_M_reached_17 : decode b_M_reached 17 = .ok (.iconst 1, 1) := by decide +kernel
theorem d_M_reached_18 : decode b_M_reached 18 = .ok (.isub, 1) := by decide +kernel
theorem d_M_reached_19 : decode b_M_reached 19 = .ok (.i2l, 1) := by decide +kernel
theorem d_M_reached_20 : decode b_M_reached 20 = .ok (.invokestatic 64, 3) := by decide +kernel
theorem d_M_reached_23 : decode b_M_reached 23 = .ok (.ifCond .eq 7, 3) := by decide +kernel
theorem d_M_reached_26 : decode b_M_reached 26 = .ok (.iconst 0, 1) := by decide +kernel
theorem d_M_reached_27 : decode b_M_reached 27 = .ok (.goto 4, 3) := by decide +kernel
theorem d_M_reached_30 : decode b_M_reached 30 = .ok (.iconst 1, 1) := by decide +kernel
theorem d_M_reached_31 : decode b_M_reached 31 = .ok (.putfield 58, 3) := by decide +kernel
theorem d_M_reached_34 : decode b_M_reached 34 = .ok (.aload_n 0, 1) := by decide +kernel
theorem d_M_reached_35 : decode b_M_reached 35 = .ok (.getfield 58, 3) := by decide +kernel
theorem d_M_reached_38 : decode b_M_reached 38 = .ok (.ifCond .le 5, 3) := by decide +kernel
theorem d_M_reached_41 : decode b_M_reached 41 = .ok (.iconst 0, 1) := by decide +kernel
theorem d_M_reached_42 : decode b_M_reached 42 = .ok (.ireturn, 1) := by decide +kernel
theorem d_M_reached_43 : decode b_M_reached 43 = .ok (.aload_n 0, 1) := by decide +kernel
theorem d_M_reached_44 : decode b_M_reached 44 = .ok (.iload_n 1, 1) := by decide +kernel
theorem d_M_reached_45 : decode b_M_reached 45 = .ok (.iload_n 2, 1) := by decide +kernel
theorem d_M_reached_46 : decode b_M_reached 46 = .ok (.invokevirtual 135, 3) := by decide +kernel
theorem d_M_reached_49 : decode b_M_reached 49 = .ok (.aload_n 0, 1) := by decide +kernel
theorem d_M_reached_50 : decode b_M_reached 50 = .ok (.getfield 40, 3) := by decide +kernel
theorem d_M_reached_53 : decode b_M_reached 53 = .ok (.iload_n 3, 1) := by decide +kernel
theorem d_M_reached_54 : decode b_M_reached 54 = .ok (.iaload, 1) := by decide +kernel
theorem d_M_reached_55 : decode b_M_reached 55 = .ok (.ireturn, 1) := by decide +kernel
theorem d_M_ring_0 : decode b_M_ring 0 = .ok (.aload_n 0, 1) := by decide +kernel
theorem d_M_ring_1 : decode b_M_ring 1 = .ok (.aload_n 0, 1) := by decide +kernel
theorem d_M_ring_2 : decode b_M_ring 2 = .ok (.getfield 160, 3) := by decide +kernel
theorem d_M_ring_5 : decode b_M_ring 5 = .ok (.bipush 6, 2) := by decide +kernel
theorem d_M_ring_7 : decode b_M_ring 7 = .ok (.if_icmp .ne 7, 3) := by decide +kernel
theorem d_M_ring_10 : decode b_M_ring 10 = .ok (.iconst 1, 1) := by decide +kernel
theorem d_M_ring_11 : decode b_M_ring 11 = .ok (.goto 4, 3) := by decide +kernel
theorem d_M_ring_14 : decode b_M_ring 14 = .ok (.iconst 0, 1) := by decide +kernel
theorem d_M_ring_15 : decode b_M_ring 15 = .ok (.putfield 58, 3) := by decide +kernel
theorem d_M_ring_18 : decode b_M_ring 18 = .ok (.aload_n 0, 1) := by decide +kernel
theorem d_M_ring_19 : decode b_M_ring 19 = .ok (.getfield 58, 3) := by decide +kernel
theorem d_M_ring_22 : decode b_M_ring 22 = .ok (.ifCond .le 5, 3) := by decide +kernel
theorem d_M_ring_25 : decode b_M_ring 25 = .ok (.iconst 0, 1) := by decide +kernel
theorem d_M_ring_26 : decode b_M_ring 26 = .ok (.ireturn, 1) := by decide +kernel
theorem d_M_ring_27 : decode b_M_ring 27 = .ok (.aload_n 0, 1) := by decide +kernel
theorem d_M_ring_28 : decode b_M_ring 28 = .ok (.dup, 1) := by decide +kernel
theorem d_M_ring_29 : decode b_M_ring 29 = .ok (.getfield 160, 3) := by decide +kernel
theorem d_M_ring_32 : decode b_M_ring 32 = .ok (.iconst 1, 1) := by decide +kernel
theorem d_M_ring_33 : decode b_M_ring 33 = .ok (.iadd, 1) := by decide +kernel
theorem d_M_ring_34 : decode b_M_ring 34 = .ok (.putfield 160, 3) := by decide +kernel
theorem d_M_ring_37 : decode b_M_ring 37 = .ok (.aload_n 0, 1) := by decide +kernel
theorem d_M_ring_38 : decode b_M_ring 38 = .ok (.getfield 160, 3) := by decide +kernel
theorem d_M_ring_41 : decode b_M_ring 41 = .ok (.iconst 1, 1) := by decide +kernel
theorem d_M_ring_42 : decode b_M_ring 42 = .ok (.isub, 1) := by decide +kernel
theorem d_M_ring_43 : decode b_M_ring 43 = .ok (.ireturn, 1) := by decide +kernel
theorem d_M_root_0 : decode b_M_root 0 = .ok (.iconst 0, 1) := by decide +kernel
theorem d_M_root_1 : decode b_M_root 1 = .ok (.istore_n 1, 1) := by decide +kernel
theorem d_M_root_2 : decode b_M_root 2 = .ok (.iload_n 1, 1) := by decide +kernel
theorem d_M_root_3 : decode b_M_root 3 = .ok (.iconst 1, 1) := by decide +kernel
theorem d_M_root_4 : decode b_M_root 4 = .ok (.iadd, 1) := by decide +kernel
theorem d_M_root_5 : decode b_M_root 5 = .ok (.iload_n 1, 1) := by decide +kernel
theorem d_M_root_6 : decode b_M_root 6 = .ok (.iconst 1, 1) := by decide +kernel
theorem d_M_root_7 : decode b_M_root 7 = .ok (.iadd, 1) := by decide +kernel
theorem d_M_root_8 : decode b_M_root 8 = .ok (.imul, 1) := by decide +kernel
theorem d_M_root_9 : decode b_M_root 9 = .ok (.iload_n 0, 1) := by decide +kernel
theorem d_M_root_10 : decode b_M_root 10 = .ok (.if_icmp .gt 9, 3) := by decide +kernel
theorem d_M_root_13 : decode b_M_root 13 = .ok (.iinc 1 1, 3) := by decide +kernel
theorem d_M_root_16 : decode b_M_root 16 = .ok (.goto (-14), 3) := by decide +kernel
theorem d_M_root_19 : decode b_M_root 19 = .ok (.iload_n 1, 1) := by decide +kernel
theorem d_M_root_20 : decode b_M_root 20 = .ok (.ireturn, 1) := by decide +kernel
theorem d_M_row_0 : decode b_M_row 0 = .ok (.aload_n 0, 1) := by decide +kernel
theorem d_M_row_1 : decode b_M_row 1 = .ok (.getfield 187, 3) := by decide +kernel
theorem d_M_row_4 : decode b_M_row 4 = .ok (.ifCond .eq 18, 3) := by decide +kernel
theorem d_M_row_7 : decode b_M_row 7 = .ok (.iload_n 1, 1) := by decide +kernel
theorem d_M_row_8 : decode b_M_row 8 = .ok (.aload_n 0, 1) := by decide +kernel
theorem d_M_row_9 : decode b_M_row 9 = .ok (.getfield 52, 3) := by decide +kernel
theorem d_M_row_12 : decode b_M_row 12 = .ok (.aload_n 0, 1) := by decide +kernel
theorem d_M_row_13 : decode b_M_row 13 = .ok (.getfield 187, 3) := by decide +kernel
theorem d_M_row_16 : decode b_M_row 16 = .ok (.iconst 1, 1) := by decide +kernel
theorem d_M_row_17 : decode b_M_row 17 = .ok (.isub, 1) := by decide +kernel
theorem d_M_row_18 : decode b_M_row 18 = .ok (.iaload, 1) := by decide +kernel
theorem d_M_row_19 : decode b_M_row 19 = .ok (.if_icmp .le 7, 3) := by decide +kernel
theorem d_M_row_22 : decode b_M_row 22 = .ok (.iconst 1, 1) := by decide +kernel
theorem d_M_row_23 : decode b_M_row 23 = .ok (.goto 4, 3) := by decide +kernel
theorem d_M_row_26 : decode b_M_row 26 = .ok (.iconst 0, 1) := by decide +kernel
theorem d_M_row_27 : decode b_M_row 27 = .ok (.istore_n 3, 1) := by decide +kernel
theorem d_M_row_28 : decode b_M_row 28 = .ok (.aload_n 0, 1) := by decide +kernel
theorem d_M_row_29 : decode b_M_row 29 = .ok (.iload_n 1, 1) := by decide +kernel
theorem d_M_row_30 : decode b_M_row 30 = .ok (.i2l, 1) := by decide +kernel
theorem d_M_row_31 : decode b_M_row 31 = .ok (.lconst 1, 1) := by decide +kernel
theorem d_M_row_32 : decode b_M_row 32 = .ok (.ldc2_w 62, 3) := by decide +kernel
theorem d_M_row_35 : decode b_M_row 35 = .ok (.invokestatic 64, 3) := by decide +kernel
theorem d_M_row_38 : decode b_M_row 38 = .ok (.ifCond .eq 19, 3) := by decide +kernel
theorem d_M_row_41 : decode b_M_row 41 = .ok (.iload_n 3, 1) := by decide +kernel
theorem d_M_row_42 : decode b_M_row 42 = .ok (.ifCond .eq 15, 3) := by decide +kernel
theorem d_M_row_45 : decode b_M_row 45 = .ok (.iload_n 2, 1) := by decide +kernel
theorem d_M_row_46 : decode b_M_row 46 = .ok (.i2l, 1) := by decide +kernel
theorem d_M_row_47 : decode b_M_row 47 = .ok (.lconst 1, 1) := by decide +kernel
theorem d_M_row_48 : decode b_M_row 48 = .ok (.ldc2_w 190, 3) := by decide +kernel
theorem d_M_row_51 : decode b_M_row 51 = .ok (.invokestatic 64, 3) := by decide +kernel
theorem d_M_row_54 : decode b_M_row 54 = .ok (.ifCond .ne 7, 3) := by decide +kernel
theorem d_M_row_57 : decode b_M_row 57 = .ok (.iconst 1, 1) := by decide +kernel
theorem d_M_row_58 : decode b_M_row 58 = .ok (.goto 17, 3) := by decide +kernel
theorem d_M_row_61 : decode b_M_row 61 = .ok (.aload_n 0, 1) := by decide +kernel
theorem d_M_row_62 : decode b_M_row 62 = .ok (.getfield 187, 3) := by decide +kernel
theorem d_M_row_65 : decode b_M_row 65 = .ok (.bipush 8, 2) := by decide +kernel
theorem d_M_row_67 : decode b_M_row 67 = .ok (.if_icmp .ne 7, 3) := by decide +kernel
theorem d_M_row_70 : decode b_M_row 70 = .ok (.iconst 2, 1) := by decide +kernel
theorem d_M_row_71 : decode b_M_row 71 = .ok (.goto 4, 3) := by decide +kernel
theorem d_M_row_74 : decode b_M_row 74 = .ok (.iconst 0, 1) := by decide +kernel
theorem d_M_row_75 : decode b_M_row 75 = .ok (.putfield 58, 3) := by decide +kernel
theorem d_M_row_78 : decode b_M_row 78 = .ok (.aload_n 0, 1) := by decide +kernel
theorem d_M_row_79 : decode b_M_row 79 = .ok (.getfield 58, 3) := by decide +kernel
theorem d_M_row_82 : decode b_M_row 82 = .ok (.ifCond .le 5, 3) := by decide +kernel
theorem d_M_row_85 : decode b_M_row 85 = .ok (.iconst 0, 1) := by decide +kernel
theorem d_M_row_86 : decode b_M_row 86 = .ok (.ireturn, 1) := by decide +kernel
theorem d_M_row_87 : decode b_M_row 87 = .ok (.aload_n 0, 1) := by decide +kernel
theorem d_M_row_88 : decode b_M_row 88 = .ok (.getfield 52, 3) := by decide +kernel
theorem d_M_row_91 : decode b_M_row 91 = .ok (.aload_n 0, 1) := by decide +kernel
theorem d_M_row_92 : decode b_M_row 92 = .ok (.getfield 187, 3) := by decide +kernel
theorem d_M_row_95 : decode b_M_row 95 = .ok (.iload_n 1, 1) := by decide +kernel
theorem d_M_row_96 : decode b_M_row 96 = .ok (.iastore, 1) := by decide +kernel
theorem d_M_row_97 : decode b_M_row 97 = .ok (.aload_n 0, 1) := by decide +kernel
theorem d_M_row_98 : decode b_M_row 98 = .ok (.getfield 55, 3) := by decide +kernel
theorem d_M_row_101 : decode b_M_row 101 = .ok (.aload_n 0, 1) := by decide +kernel
theorem d_M_row_102 : decode b_M_row 102 = .ok (.getfield 187, 3) := by decide +kernel
theorem d_M_row_105 : decode b_M_row 105 = .ok (.iload_n 2, 1) := by decide +kernel
theorem d_M_row_106 : decode b_M_row 106 = .ok (.iastore, 1) := by decide +kernel
theorem d_M_row_107 : decode b_M_row 107 = .ok (.aload_n 0, 1) := by decide +kernel
theorem d_M_row_108 : decode b_M_row 108 = .ok (.dup, 1) := by decide +kernel
theorem d_M_row_109 : decode b_M_row 109 = .ok (.getfield 187, 3) := by decide +kernel
theorem d_M_row_112 : decode b_M_row 112 = .ok (.iconst 1, 1) := by decide +kernel
theorem d_M_row_113 : decode b_M_row 113 = .ok (.iadd, 1) := by decide +kernel
theorem d_M_row_114 : decode b_M_row 114 = .ok (.putfield 187, 3) := by decide +kernel
theorem d_M_row_117 : decode b_M_row 117 = .ok (.aload_n 0, 1) := by decide +kernel
theorem d_M_row_118 : decode b_M_row 118 = .ok (.getfield 187, 3) := by decide +kernel
theorem d_M_row_121 : decode b_M_row 121 = .ok (.ireturn, 1) := by decide +kernel
theorem d_M_speed_0 : decode b_M_speed 0 = .ok (.aload_n 0, 1) := by decide +kernel
theorem d_M_speed_1 : decode b_M_speed 1 = .ok (.aload_n 0, 1) := by decide +kernel
theorem d_M_speed_2 : decode b_M_speed 2 = .ok (.iload_n 1, 1) := by decide +kernel
theorem d_M_speed_3 : decode b_M_speed 3 = .ok (.iload_n 2, 1) := by decide +kernel
theorem d_M_speed_4 : decode b_M_speed 4 = .ok (.invokevirtual 121, 3) := by decide +kernel
theorem d_M_speed_7 : decode b_M_speed 7 = .ok (.ifCond .ne 7, 3) := by decide +kernel
theorem d_M_speed_10 : decode b_M_speed 10 = .ok (.iconst 1, 1) := by decide +kernel
theorem d_M_speed_11 : decode b_M_speed 11 = .ok (.goto 15, 3) := by decide +kernel
theorem d_M_speed_14 : decode b_M_speed 14 = .ok (.aload_n 0, 1) := by decide +kernel
theorem d_M_speed_15 : decode b_M_speed 15 = .ok (.getfield 187, 3) := by decide +kernel
theorem d_M_speed_18 : decode b_M_speed 18 = .ok (.ifCond .ne 7, 3) := by decide +kernel
theorem d_M_speed_21 : decode b_M_speed 21 = .ok (.iconst 2, 1) := by decide +kernel
theorem d_M_speed_22 : decode b_M_speed 22 = .ok (.goto 4, 3) := by decide +kernel
theorem d_M_speed_25 : decode b_M_speed 25 = .ok (.iconst 0, 1) := by decide +kernel
theorem d_M_speed_26 : decode b_M_speed 26 = .ok (.putfield 58, 3) := by decide +kernel
theorem d_M_speed_29 : decode b_M_speed 29 = .ok (.aload_n 0, 1) := by decide +kernel
theorem d_M_speed_30 : decode b_M_speed 30 = .ok (.getfield 58, 3) := by decide +kernel
theorem d_M_speed_33 : decode b_M_speed 33 = .ok (.ifCond .le 5, 3) := by decide +kernel
theorem d_M_speed_36 : decode b_M_speed 36 = .ok (.iconst 0, 1) := by decide +kernel
theorem d_M_speed_37 : decode b_M_speed 37 = .ok (.ireturn, 1) := by decide +kernel
theorem d_M_speed_38 : decode b_M_speed 38 = .ok (.iconst 0, 1) := by decide +kernel
theorem d_M_speed_39 : decode b_M_speed 39 = .ok (.istore_n 3, 1) := by decide +kernel
theorem d_M_speed_40 : decode b_M_speed 40 = .ok (.iload_n 3, 1) := by decide +kernel
theorem d_M_speed_41 : decode b_M_speed 41 = .ok (.aload_n 0, 1) := by decide +kernel
theorem d_M_speed_42 : decode b_M_speed 42 = .ok (.getfield 187, 3) := by decide +kernel
theorem d_M_speed_45 : decode b_M_speed 45 = .ok (.iconst 1, 1) := by decide +kernel
theorem d_M_speed_46 : decode b_M_speed 46 = .ok (.isub, 1) := by decide +kernel
theorem d_M_speed_47 : decode b_M_speed 47 = .ok (.if_icmp .ge 29, 3) := by decide +kernel
theorem d_M_speed_50 : decode b_M_speed 50 = .ok (.aload_n 0, 1) := by decide +kernel
theorem d_M_speed_51 : decode b_M_speed 51 = .ok (.getfield 52, 3) := by decide +kernel
theorem d_M_speed_54 : decode b_M_speed 54 = .ok (.iload_n 3, 1) := by decide +kernel
theorem d_M_speed_55 : decode b_M_speed 55 = .ok (.iaload, 1) := by decide +kernel
theorem d_M_speed_56 : decode b_M_speed 56 = .ok (.aload_n 0, 1) := by decide +kernel
theorem d_M_speed_57 : decode b_M_speed 57 = .ok (.getfield 31, 3) := by decide +kernel
theorem d_M_speed_60 : decode b_M_speed 60 = .ok (.bipush 65, 2) := by decide +kernel
theorem d_M_speed_62 : decode b_M_speed 62 = .ok (.iload_n 1, 1) := by decide +kernel
theorem d_M_speed_63 : decode b_M_speed 63 = .ok (.imul, 1) := by decide +kernel
theorem d_M_speed_64 : decode b_M_speed 64 = .ok (.iload_n 2, 1) := by decide +kernel
theorem d_M_speed_65 : decode b_M_speed 65 = .ok (.iadd, 1) := by decide +kernel
theorem d_M_speed_66 : decode b_M_speed 66 = .ok (.iaload, 1) := by decide +kernel
theorem d_M_speed_67 : decode b_M_speed 67 = .ok (.if_icmp .ge 9, 3) := by decide +kernel
theorem d_M_speed_70 : decode b_M_speed 70 = .ok (.iinc 3 1, 3) := by decide +kernel
theorem d_M_speed_73 : decode b_M_speed 73 = .ok (.goto (-33), 3) := by decide +kernel
theorem d_M_speed_76 : decode b_M_speed 76 = .ok (.aload_n 0, 1) := by decide +kernel
theorem d_M_speed_77 : decode b_M_speed 77 = .ok (.getfield 55, 3) := by decide +kernel
theorem d_M_speed_80 : decode b_M_speed 80 = .ok (.iload_n 3, 1) := by decide +kernel
theorem d_M_speed_81 : decode b_M_speed 81 = .ok (.iaload, 1) := by decide +kernel
theorem d_M_speed_82 : decode b_M_speed 82 = .ok (.ireturn, 1) := by decide +kernel
theorem d_M_square_0 : decode b_M_square 0 = .ok (.iload_n 0, 1) := by decide +kernel
theorem d_M_square_1 : decode b_M_square 1 = .ok (.iload_n 2, 1) := by decide +kernel
theorem d_M_square_2 : decode b_M_square 2 = .ok (.isub, 1) := by decide +kernel
theorem d_M_square_3 : decode b_M_square 3 = .ok (.iload_n 0, 1) := by decide +kernel
theorem d_M_square_4 : decode b_M_square 4 = .ok (.iload_n 2, 1) := by decide +kernel
theorem d_M_square_5 : decode b_M_square 5 = .ok (.isub, 1) := by decide +kernel
theorem d_M_square_6 : decode b_M_square 6 = .ok (.imul, 1) := by decide +kernel
theorem d_M_square_7 : decode b_M_square 7 = .ok (.iload_n 1, 1) := by decide +kernel
theorem d_M_square_8 : decode b_M_square 8 = .ok (.iload_n 3, 1) := by decide +kernel
theorem d_M_square_9 : decode b_M_square 9 = .ok (.isub, 1) := by decide +kernel
theorem d_M_square_10 : decode b_M_square 10 = .ok (.iload_n 1, 1) := by decide +kernel
theorem d_M_square_11 : decode b_M_square 11 = .ok (.iload_n 3, 1) := by decide +kernel
theorem d_M_square_12 : decode b_M_square 12 = .ok (.isub, 1) := by decide +kernel
theorem d_M_square_13 : decode b_M_square 13 = .ok (.imul, 1) := by decide +kernel
theorem d_M_square_14 : decode b_M_square 14 = .ok (.iadd, 1) := by decide +kernel
theorem d_M_square_15 : decode b_M_square 15 = .ok (.ireturn, 1) := by decide +kernel
theorem d_M_start_0 : decode b_M_start 0 = .ok (.aload_n 0, 1) := by decide +kernel
theorem d_M_start_1 : decode b_M_start 1 = .ok (.iload_n 1, 1) := by decide +kernel
theorem d_M_start_2 : decode b_M_start 2 = .ok (.i2l, 1) := by decide +kernel
theorem d_M_start_3 : decode b_M_start 3 = .ok (.lconst 0, 1) := by decide +kernel
theorem d_M_start_4 : decode b_M_start 4 = .ok (.ldc2_w 62, 3) := by decide +kernel
theorem d_M_start_7 : decode b_M_start 7 = .ok (.invokestatic 64, 3) := by decide +kernel
theorem d_M_start_10 : decode b_M_start 10 = .ok (.ifCond .eq 7, 3) := by decide +kernel
theorem d_M_start_13 : decode b_M_start 13 = .ok (.iconst 0, 1) := by decide +kernel
theorem d_M_start_14 : decode b_M_start 14 = .ok (.goto 4, 3) := by decide +kernel
theorem d_M_start_17 : decode b_M_start 17 = .ok (.iconst 1, 1) := by decide +kernel
theorem d_M_start_18 : decode b_M_start 18 = .ok (.putfield 58, 3) := by decide +kernel
theorem d_M_start_21 : decode b_M_start 21 = .ok (.aload_n 0, 1) := by decide +kernel
theorem d_M_start_22 : decode b_M_start 22 = .ok (.getfield 58, 3) := by decide +kernel
theorem d_M_start_25 : decode b_M_start 25 = .ok (.ifCond .ne 18, 3) := by decide +kernel
theorem d_M_start_28 : decode b_M_start 28 = .ok (.aload_n 0, 1) := by decide +kernel
theorem d_M_start_29 : decode b_M_start 29 = .ok (.iconst 1, 1) := by decide +kernel
theorem d_M_start_30 : decode b_M_start 30 = .ok (.putfield 68, 3) := by decide +kernel
theorem d_M_start_33 : decode b_M_start 33 = .ok (.aload_n 0, 1) := by decide +kernel
theorem d_M_start_34 : decode b_M_start 34 = .ok (.iload_n 1, 1) := by decide +kernel
theorem d_M_start_35 : decode b_M_start 35 = .ok (.putfield 72, 3) := by decide +kernel
theorem d_M_start_38 : decode b_M_start 38 = .ok (.aload_n 0, 1) := by decide +kernel
theorem d_M_start_39 : decode b_M_start 39 = .ok (.iconst 0, 1) := by decide +kernel
theorem d_M_start_40 : decode b_M_start 40 = .ok (.putfield 75, 3) := by decide +kernel
theorem d_M_start_43 : decode b_M_start 43 = .ok (.return_, 1) := by decide +kernel
theorem d_M_steady_0 : decode b_M_steady 0 = .ok (.aload_n 0, 1) := by decide +kernel
theorem d_M_steady_1 : decode b_M_steady 1 = .ok (.aload_n 0, 1) := by decide +kernel
theorem d_M_steady_2 : decode b_M_steady 2 = .ok (.iload_n 1, 1) := by decide +kernel
theorem d_M_steady_3 : decode b_M_steady 3 = .ok (.invokevirtual 117, 3) := by decide +kernel
theorem d_M_steady_6 : decode b_M_steady 6 = .ok (.ifCond .ne 7, 3) := by decide +kernel
theorem d_M_steady_9 : decode b_M_steady 9 = .ok (.iconst 1, 1) := by decide +kernel
theorem d_M_steady_10 : decode b_M_steady 10 = .ok (.goto 24, 3) := by decide +kernel
theorem d_M_steady_13 : decode b_M_steady 13 = .ok (.iload_n 2, 1) := by decide +kernel
theorem d_M_steady_14 : decode b_M_steady 14 = .ok (.i2l, 1) := by decide +kernel
theorem d_M_steady_15 : decode b_M_steady 15 = .ok (.lconst 1, 1) := by decide +kernel
theorem d_M_steady_16 : decode b_M_steady 16 = .ok (.ldc2_w 62, 3) := by decide +kernel
theorem d_M_steady_19 : decode b_M_steady 19 = .ok (.invokestatic 64, 3) := by decide +kernel
theorem d_M_steady_22 : decode b_M_steady 22 = .ok (.ifCond .eq 7, 3) := by decide +kernel
theorem d_M_steady_25 : decode b_M_steady 25 = .ok (.iload_n 3, 1) := by decide +kernel
theorem d_M_steady_26 : decode b_M_steady 26 = .ok (.ifCond .ge 7, 3) := by decide +kernel
theorem d_M_steady_29 : decode b_M_steady 29 = .ok (.iconst 2, 1) := by decide +kernel
theorem d_M_steady_30 : decode b_M_steady 30 = .ok (.goto 4, 3) := by decide +kernel
theorem d_M_steady_33 : decode b_M_steady 33 = .ok (.iconst 0, 1) := by decide +kernel
theorem d_M_steady_34 : decode b_M_steady 34 = .ok (.putfield 58, 3) := by decide +kernel
theorem d_M_steady_37 : decode b_M_steady 37 = .ok (.aload_n 0, 1) := by decide +kernel
theorem d_M_steady_38 : decode b_M_steady 38 = .ok (.getfield 58, 3) := by decide +kernel
theorem d_M_steady_41 : decode b_M_steady 41 = .ok (.ifCond .le 5, 3) := by decide +kernel
theorem d_M_steady_44 : decode b_M_steady 44 = .ok (.iconst 0, 1) := by decide +kernel
theorem d_M_steady_45 : decode b_M_steady 45 = .ok (.ireturn, 1) := by decide +kernel
theorem d_M_steady_46 : decode b_M_steady 46 = .ok (.aload_n 0, 1) := by decide +kernel
theorem d_M_steady_47 : decode b_M_steady 47 = .ok (.iload_n 1, 1) := by decide +kernel
theorem d_M_steady_48 : decode b_M_steady 48 = .ok (.iload_n 2, 1) := by decide +kernel
theorem d_M_steady_49 : decode b_M_steady 49 = .ok (.iconst 0, 1) := by decide +kernel
theorem d_M_steady_50 : decode b_M_steady 50 = .ok (.invokevirtual 150, 3) := by decide +kernel
theorem d_M_steady_53 : decode b_M_steady 53 = .ok (.istore 4, 2) := by decide +kernel
theorem d_M_steady_55 : decode b_M_steady 55 = .ok (.iconst 0, 1) := by decide +kernel
theorem d_M_steady_56 : decode b_M_steady 56 = .ok (.istore 5, 2) := by decide +kernel
theorem d_M_steady_58 : decode b_M_steady 58 = .ok (.iload 5, 2) := by decide +kernel
theorem d_M_steady_60 : decode b_M_steady 60 = .ok (.iload_n 3, 1) := by decide +kernel
theorem d_M_steady_61 : decode b_M_steady 61 = .ok (.if_icmp .ge 30, 3) := by decide +kernel
theorem d_M_steady_64 : decode b_M_steady 64 = .ok (.iload 4, 2) := by decide +kernel
theorem d_M_steady_66 : decode b_M_steady 66 = .ok (.aload_n 0, 1) := by decide +kernel
theorem d_M_steady_67 : decode b_M_steady 67 = .ok (.getfield 25, 3) := by decide +kernel
theorem d_M_steady_70 : decode b_M_steady 70 = .ok (.iload_n 1, 1) := by decide +kernel
theorem d_M_steady_71 : decode b_M_steady 71 = .ok (.iaload, 1) := by decide +kernel
theorem d_M_steady_72 : decode b_M_steady 72 = .ok (.if_icmp .ge 19, 3) := by decide +kernel
theorem d_M_steady_75 : decode b_M_steady 75 = .ok (.aload_n 0, 1) := by decide +kernel
theorem d_M_steady_76 : decode b_M_steady 76 = .ok (.iload_n 1, 1) := by decide +kernel
theorem d_M_steady_77 : decode b_M_steady 77 = .ok (.iload_n 2, 1) := by decide +kernel
theorem d_M_steady_78 : decode b_M_steady 78 = .ok (.iload 4, 2) := by decide +kernel
theorem d_M_steady_80 : decode b_M_steady 80 = .ok (.invokevirtual 150, 3) := by decide +kernel
theorem d_M_steady_83 : decode b_M_steady 83 = .ok (.istore 4, 2) := by decide +kernel
theorem d_M_steady_85 : decode b_M_steady 85 = .ok (.iinc 5 1, 3) := by decide +kernel
theorem d_M_steady_88 : decode b_M_steady 88 = .ok (.goto (-30), 3) := by decide +kernel
theorem d_M_steady_91 : decode b_M_steady 91 = .ok (.aload_n 0, 1) := by decide +kernel
theorem d_M_steady_92 : decode b_M_steady 92 = .ok (.iload 4, 2) := by decide +kernel
theorem d_M_steady_94 : decode b_M_steady 94 = .ok (.aload_n 0, 1) := by decide +kernel
theorem d_M_steady_95 : decode b_M_steady 95 = .ok (.getfield 25, 3) := by decide +kernel
theorem d_M_steady_98 : decode b_M_steady 98 = .ok (.iload_n 1, 1) := by decide +kernel
theorem d_M_steady_99 : decode b_M_steady 99 = .ok (.iaload, 1) := by decide +kernel
theorem d_M_steady_100 : decode b_M_steady 100 = .ok (.if_icmp .lt 7, 3) := by decide +kernel
theorem d_M_steady_103 : decode b_M_steady 103 = .ok (.iconst 3, 1) := by decide +kernel
theorem d_M_steady_104 : decode b_M_steady 104 = .ok (.goto 4, 3) := by decide +kernel
theorem d_M_steady_107 : decode b_M_steady 107 = .ok (.iconst 0, 1) := by decide +kernel
theorem d_M_steady_108 : decode b_M_steady 108 = .ok (.putfield 58, 3) := by decide +kernel
theorem d_M_steady_111 : decode b_M_steady 111 = .ok (.aload_n 0, 1) := by decide +kernel
theorem d_M_steady_112 : decode b_M_steady 112 = .ok (.getfield 58, 3) := by decide +kernel
theorem d_M_steady_115 : decode b_M_steady 115 = .ok (.ifCond .le 7, 3) := by decide +kernel
theorem d_M_steady_118 : decode b_M_steady 118 = .ok (.iconst 0, 1) := by decide +kernel
theorem d_M_steady_119 : decode b_M_steady 119 = .ok (.goto 5, 3) := by decide +kernel
theorem d_M_steady_122 : decode b_M_steady 122 = .ok (.iload 4, 2) := by decide +kernel
theorem d_M_steady_124 : decode b_M_steady 124 = .ok (.ireturn, 1) := by decide +kernel
theorem d_M_thread_0 : decode b_M_thread 0 = .ok (.aload_n 0, 1) := by decide +kernel
theorem d_M_thread_1 : decode b_M_thread 1 = .ok (.iload_n 1, 1) := by decide +kernel
theorem d_M_thread_2 : decode b_M_thread 2 = .ok (.i2l, 1) := by decide +kernel
theorem d_M_thread_3 : decode b_M_thread 3 = .ok (.lconst 1, 1) := by decide +kernel
theorem d_M_thread_4 : decode b_M_thread 4 = .ok (.ldc2_w 177, 3) := by decide +kernel
theorem d_M_thread_7 : decode b_M_thread 7 = .ok (.invokestatic 64, 3) := by decide +kernel
theorem d_M_thread_10 : decode b_M_thread 10 = .ok (.ifCond .eq 19, 3) := by decide +kernel
theorem d_M_thread_13 : decode b_M_thread 13 = .ok (.iload_n 2, 1) := by decide +kernel
theorem d_M_thread_14 : decode b_M_thread 14 = .ok (.i2l, 1) := by decide +kernel
theorem d_M_thread_15 : decode b_M_thread 15 = .ok (.lconst 1, 1) := by decide +kernel
theorem d_M_thread_16 : decode b_M_thread 16 = .ok (.ldc2_w 177, 3) := by decide +kernel
theorem d_M_thread_19 : decode b_M_thread 19 = .ok (.invokestatic 64, 3) := by decide +kernel
theorem d_M_thread_22 : decode b_M_thread 22 = .ok (.ifCond .eq 7, 3) := by decide +kernel
theorem d_M_thread_25 : decode b_M_thread 25 = .ok (.iconst 0, 1) := by decide +kernel
theorem d_M_thread_26 : decode b_M_thread 26 = .ok (.goto 4, 3) := by decide +kernel
theorem d_M_thread_29 : decode b_M_thread 29 = .ok (.iconst 1, 1) := by decide +kernel
theorem d_M_thread_30 : decode b_M_thread 30 = .ok (.putfield 58, 3) := by decide +kernel
theorem d_M_thread_33 : decode b_M_thread 33 = .ok (.aload_n 0, 1) := by decide +kernel
theorem d_M_thread_34 : decode b_M_thread 34 = .ok (.getfield 58, 3) := by decide +kernel
theorem d_M_thread_37 : decode b_M_thread 37 = .ok (.ifCond .ne 13, 3) := by decide +kernel
theorem d_M_thread_40 : decode b_M_thread 40 = .ok (.aload_n 0, 1) := by decide +kernel
theorem d_M_thread_41 : decode b_M_thread 41 = .ok (.iload_n 1, 1) := by decide +kernel
theorem d_M_thread_42 : decode b_M_thread 42 = .ok (.putfield 181, 3) := by decide +kernel
theorem d_M_thread_45 : decode b_M_thread 45 = .ok (.aload_n 0, 1) := by decide +kernel
theorem d_M_thread_46 : decode b_M_thread 46 = .ok (.iload_n 2, 1) := by decide +kernel
theorem d_M_thread_47 : decode b_M_thread 47 = .ok (.putfield 184, 3) := by decide +kernel
theorem d_M_thread_50 : decode b_M_thread 50 = .ok (.return_, 1) := by decide +kernel
theorem d_M_threadAt_0 : decode b_M_threadAt 0 = .ok (.aload_n 0, 1) := by decide +kernel
theorem d_M_threadAt_1 : decode b_M_threadAt 1 = .ok (.iload_n 2, 1) := by decide +kernel
theorem d_M_threadAt_2 : decode b_M_threadAt 2 = .ok (.i2l, 1) := by decide +kernel
theorem d_M_threadAt_3 : decode b_M_threadAt 3 = .ok (.lconst 0, 1) := by decide +kernel
theorem d_M_threadAt_4 : decode b_M_threadAt 4 = .ok (.lconst 1, 1) := by decide +kernel
theorem d_M_threadAt_5 : decode b_M_threadAt 5 = .ok (.invokestatic 64, 3) := by decide +kernel
theorem d_M_threadAt_8 : decode b_M_threadAt 8 = .ok (.ifCond .ne 7, 3) := by decide +kernel
theorem d_M_threadAt_11 : decode b_M_threadAt 11 = .ok (.iconst 1, 1) := by decide +kernel
theorem d_M_threadAt_12 : decode b_M_threadAt 12 = .ok (.goto 31, 3) := by decide +kernel
theorem d_M_threadAt_15 : decode b_M_threadAt 15 = .ok (.iload_n 1, 1) := by decide +kernel
theorem d_M_threadAt_16 : decode b_M_threadAt 16 = .ok (.i2l, 1) := by decide +kernel
theorem d_M_threadAt_17 : decode b_M_threadAt 17 = .ok (.lconst 0, 1) := by decide +kernel
theorem d_M_threadAt_18 : decode b_M_threadAt 18 = .ok (.ldc2_w 156, 3) := by decide +kernel
theorem d_M_threadAt_21 : decode b_M_threadAt 21 = .ok (.invokestatic 64, 3) := by decide +kernel
theorem d_M_threadAt_24 : decode b_M_threadAt 24 = .ok (.ifCond .ne 7, 3) := by decide +kernel
theorem d_M_threadAt_27 : decode b_M_threadAt 27 = .ok (.iconst 2, 1) := by decide +kernel
theorem d_M_threadAt_28 : decode b_M_threadAt 28 = .ok (.goto 15, 3) := by decide +kernel
theorem d_M_threadAt_31 : decode b_M_threadAt 31 = .ok (.aload_n 0, 1) := by decide +kernel
theorem d_M_threadAt_32 : decode b_M_threadAt 32 = .ok (.getfield 184, 3) := by decide +kernel
theorem d_M_threadAt_35 : decode b_M_threadAt 35 = .ok (.ifCond .ne 7, 3) := by decide +kernel
theorem d_M_threadAt_38 : decode b_M_threadAt 38 = .ok (.iconst 3, 1) := by decide +kernel
theorem d_M_threadAt_39 : decode b_M_threadAt 39 = .ok (.goto 4, 3) := by decide +kernel
theorem d_M_threadAt_42 : decode b_M_threadAt 42 = .ok (.iconst 0, 1) := by decide +kernel
theorem d_M_threadAt_43 : decode b_M_threadAt 43 = .ok (.putfield 58, 3) := by decide +kernel
theorem d_M_threadAt_46 : decode b_M_threadAt 46 = .ok (.aload_n 0, 1) := by decide +kernel
theorem d_M_threadAt_47 : decode b_M_threadAt 47 = .ok (.getfield 58, 3) := by decide +kernel
theorem d_M_threadAt_50 : decode b_M_threadAt 50 = .ok (.ifCond .le 7, 3) := by decide +kernel
theorem d_M_threadAt_53 : decode b_M_threadAt 53 = .ok (.lconst 0, 1) := by decide +kernel
theorem d_M_threadAt_54 : decode b_M_threadAt 54 = .ok (.goto 20, 3) := by decide +kernel
theorem d_M_threadAt_57 : decode b_M_threadAt 57 = .ok (.iload_n 1, 1) := by decide +kernel
theorem d_M_threadAt_58 : decode b_M_threadAt 58 = .ok (.i2l, 1) := by decide +kernel
theorem d_M_threadAt_59 : decode b_M_threadAt 59 = .ok (.aload_n 0, 1) := by decide +kernel
theorem d_M_threadAt_60 : decode b_M_threadAt 60 = .ok (.getfield 181, 3) := by decide +kernel
theorem d_M_threadAt_63 : decode b_M_threadAt 63 = .ok (.i2l, 1) := by decide +kernel
theorem d_M_threadAt_64 : decode b_M_threadAt 64 = .ok (.lmul, 1) := by decide +kernel
theorem d_M_threadAt_65 : decode b_M_threadAt 65 = .ok (.aload_n 0, 1) := by decide +kernel
theorem d_M_threadAt_66 : decode b_M_threadAt 66 = .ok (.getfield 184, 3) := by decide +kernel
theorem d_M_threadAt_69 : decode b_M_threadAt 69 = .ok (.i2l, 1) := by decide +kernel
theorem d_M_threadAt_70 : decode b_M_threadAt 70 = .ok (.iload_n 2, 1) := by decide +kernel
theorem d_M_threadAt_71 : decode b_M_threadAt 71 = .ok (.invokestatic 165, 3) := by decide +kernel
theorem d_M_threadAt_74 : decode b_M_threadAt 74 = .ok (.lreturn, 1) := by decide +kernel
theorem d_M_thrown_0 : decode b_M_thrown 0 = .ok (.aload_n 0, 1) := by decide +kernel
theorem d_M_thrown_1 : decode b_M_thrown 1 = .ok (.getfield 58, 3) := by decide +kernel
theorem d_M_thrown_4 : decode b_M_thrown 4 = .ok (.ireturn, 1) := by decide +kernel
theorem d_M_tool_0 : decode b_M_tool 0 = .ok (.aload_n 0, 1) := by decide +kernel
theorem d_M_tool_1 : decode b_M_tool 1 = .ok (.iload_n 1, 1) := by decide +kernel
theorem d_M_tool_2 : decode b_M_tool 2 = .ok (.i2l, 1) := by decide +kernel
theorem d_M_tool_3 : decode b_M_tool 3 = .ok (.lconst 0, 1) := by decide +kernel
theorem d_M_tool_4 : decode b_M_tool 4 = .ok (.ldc2_w 130, 3) := by decide +kernel
theorem d_M_tool_7 : decode b_M_tool 7 = .ok (.invokestatic 64, 3) := by decide +kernel
theorem d_M_tool_10 : decode b_M_tool 10 = .ok (.ifCond .ne 7, 3) := by decide +kernel
theorem d_M_tool_13 : decode b_M_tool 13 = .ok (.iconst 1, 1) := by decide +kernel
theorem d_M_tool_14 : decode b_M_tool 14 = .ok (.goto 17, 3) := by decide +kernel
theorem d_M_tool_17 : decode b_M_tool 17 = .ok (.aload_n 0, 1) := by decide +kernel
theorem d_M_tool_18 : decode b_M_tool 18 = .ok (.getfield 132, 3) := by decide +kernel
theorem d_M_tool_21 : decode b_M_tool 21 = .ok (.bipush 6, 2) := by decide +kernel
theorem d_M_tool_23 : decode b_M_tool 23 = .ok (.if_icmp .ne 7, 3) := by decide +kernel
theorem d_M_tool_26 : decode b_M_tool 26 = .ok (.iconst 2, 1) := by decide +kernel
theorem d_M_tool_27 : decode b_M_tool 27 = .ok (.goto 4, 3) := by decide +kernel
theorem d_M_tool_30 : decode b_M_tool 30 = .ok (.iconst 0, 1) := by decide +kernel
theorem d_M_tool_31 : decode b_M_tool 31 = .ok (.putfield 58, 3) := by decide +kernel
theorem d_M_tool_34 : decode b_M_tool 34 = .ok (.aload_n 0, 1) := by decide +kernel
theorem d_M_tool_35 : decode b_M_tool 35 = .ok (.getfield 58, 3) := by decide +kernel
theorem d_M_tool_38 : decode b_M_tool 38 = .ok (.ifCond .le 5, 3) := by decide +kernel
theorem d_M_tool_41 : decode b_M_tool 41 = .ok (.iconst 0, 1) := by decide +kernel
theorem d_M_tool_42 : decode b_M_tool 42 = .ok (.ireturn, 1) := by decide +kernel
theorem d_M_tool_43 : decode b_M_tool 43 = .ok (.aload_n 0, 1) := by decide +kernel
theorem d_M_tool_44 : decode b_M_tool 44 = .ok (.getfield 34, 3) := by decide +kernel
theorem d_M_tool_47 : decode b_M_tool 47 = .ok (.aload_n 0, 1) := by decide +kernel
theorem d_M_tool_48 : decode b_M_tool 48 = .ok (.getfield 132, 3) := by decide +kernel
theorem d_M_tool_51 : decode b_M_tool 51 = .ok (.iload_n 1, 1) := by decide +kernel
theorem d_M_tool_52 : decode b_M_tool 52 = .ok (.iastore, 1) := by decide +kernel
theorem d_M_tool_53 : decode b_M_tool 53 = .ok (.aload_n 0, 1) := by decide +kernel
theorem d_M_tool_54 : decode b_M_tool 54 = .ok (.dup, 1) := by decide +kernel
theorem d_M_tool_55 : decode b_M_tool 55 = .ok (.getfield 132, 3) := by decide +kernel
theorem d_M_tool_58 : decode b_M_tool 58 = .ok (.iconst 1, 1) := by decide +kernel
theorem d_M_tool_59 : decode b_M_tool 59 = .ok (.iadd, 1) := by decide +kernel
theorem d_M_tool_60 : decode b_M_tool 60 = .ok (.putfield 132, 3) := by decide +kernel
theorem d_M_tool_63 : decode b_M_tool 63 = .ok (.aload_n 0, 1) := by decide +kernel
theorem d_M_tool_64 : decode b_M_tool 64 = .ok (.getfield 132, 3) := by decide +kernel
theorem d_M_tool_67 : decode b_M_tool 67 = .ok (.iconst 1, 1) := by decide +kernel
theorem d_M_tool_68 : decode b_M_tool 68 = .ok (.isub, 1) := by decide +kernel
theorem d_M_tool_69 : decode b_M_tool 69 = .ok (.ireturn, 1) := by decide +kernel
theorem d_M_turn_0 : decode b_M_turn 0 = .ok (.aload_n 0, 1) := by decide +kernel
theorem d_M_turn_1 : decode b_M_turn 1 = .ok (.aload_n 0, 1) := by decide +kernel
theorem d_M_turn_2 : decode b_M_turn 2 = .ok (.getfield 111, 3) := by decide +kernel
theorem d_M_turn_5 : decode b_M_turn 5 = .ok (.bipush 6, 2) := by decide +kernel
theorem d_M_turn_7 : decode b_M_turn 7 = .ok (.if_icmp .eq 17, 3) := by decide +kernel
theorem d_M_turn_10 : decode b_M_turn 10 = .ok (.aload_n 0, 1) := by decide +kernel
theorem d_M_turn_11 : decode b_M_turn 11 = .ok (.getfield 68, 3) := by decide +kernel
theorem d_M_turn_14 : decode b_M_turn 14 = .ok (.ifCond .eq 10, 3) := by decide +kernel
theorem d_M_turn_17 : decode b_M_turn 17 = .ok (.aload_n 0, 1) := by decide +kernel
theorem d_M_turn_18 : decode b_M_turn 18 = .ok (.getfield 75, 3) := by decide +kernel
theorem d_M_turn_21 : decode b_M_turn 21 = .ok (.ifCond .ne 7, 3) := by decide +kernel
theorem d_M_turn_24 : decode b_M_turn 24 = .ok (.iconst 1, 1) := by decide +kernel
theorem d_M_turn_25 : decode b_M_turn 25 = .ok (.goto 4, 3) := by decide +kernel
theorem d_M_turn_28 : decode b_M_turn 28 = .ok (.iconst 0, 1) := by decide +kernel
theorem d_M_turn_29 : decode b_M_turn 29 = .ok (.putfield 58, 3) := by decide +kernel
theorem d_M_turn_32 : decode b_M_turn 32 = .ok (.aload_n 0, 1) := by decide +kernel
theorem d_M_turn_33 : decode b_M_turn 33 = .ok (.getfield 58, 3) := by decide +kernel
theorem d_M_turn_36 : decode b_M_turn 36 = .ok (.ifCond .le 5, 3) := by decide +kernel
theorem d_M_turn_39 : decode b_M_turn 39 = .ok (.iconst 0, 1) := by decide +kernel
theorem d_M_turn_40 : decode b_M_turn 40 = .ok (.ireturn, 1) := by decide +kernel
theorem d_M_turn_41 : decode b_M_turn 41 = .ok (.bipush 65, 2) := by decide +kernel
theorem d_M_turn_43 : decode b_M_turn 43 = .ok (.aload_n 0, 1) := by decide +kernel
theorem d_M_turn_44 : decode b_M_turn 44 = .ok (.getfield 111, 3) := by decide +kernel
theorem d_M_turn_47 : decode b_M_turn 47 = .ok (.imul, 1) := by decide +kernel
theorem d_M_turn_48 : decode b_M_turn 48 = .ok (.istore_n 1, 1) := by decide +kernel
theorem d_M_turn_49 : decode b_M_turn 49 = .ok (.aload_n 0, 1) := by decide +kernel
theorem d_M_turn_50 : decode b_M_turn 50 = .ok (.getfield 31, 3) := by decide +kernel
theorem d_M_turn_53 : decode b_M_turn 53 = .ok (.iload_n 1, 1) := by decide +kernel
theorem d_M_turn_54 : decode b_M_turn 54 = .ok (.aload_n 0, 1) := by decide +kernel
theorem d_M_turn_55 : decode b_M_turn 55 = .ok (.getfield 72, 3) := by decide +kernel
theorem d_M_turn_58 : decode b_M_turn 58 = .ok (.iastore, 1) := by decide +kernel
theorem d_M_turn_59 : decode b_M_turn 59 = .ok (.iconst 0, 1) := by decide +kernel
theorem d_M_turn_60 : decode b_M_turn 60 = .ok (.istore_n 2, 1) := by decide +kernel
theorem d_M_turn_61 : decode b_M_turn 61 = .ok (.aload_n 0, 1) := by decide +kernel
theorem d_M_turn_62 : decode b_M_turn 62 = .ok (.getfield 72, 3) := by decide +kernel
theorem d_M_turn_65 : decode b_M_turn 65 = .ok (.istore_n 3, 1) := by decide +kernel
theorem d_M_turn_66 : decode b_M_turn 66 = .ok (.iconst 0, 1) := by decide +kernel
theorem d_M_turn_67 : decode b_M_turn 67 = .ok (.istore 4, 2) := by decide +kernel
theorem d_M_turn_69 : decode b_M_turn 69 = .ok (.iload 4, 2) := by decide +kernel
theorem d_M_turn_71 : decode b_M_turn 71 = .ok (.aload_n 0, 1) := by decide +kernel
theorem d_M_turn_72 : decode b_M_turn 72 = .ok (.getfield 75, 3) := by decide +kernel
theorem d_M_turn_75 : decode b_M_turn 75 = .ok (.if_icmp .ge 67, 3) := by decide +kernel
theorem d_M_turn_78 : decode b_M_turn 78 = .ok (.iload_n 2, 1) := by decide +kernel
theorem d_M_turn_79 : decode b_M_turn 79 = .ok (.iconst 1, 1) := by decide +kernel
theorem d_M_turn_80 : decode b_M_turn 80 = .ok (.iadd, 1) := by decide +kernel
theorem d_M_turn_81 : decode b_M_turn 81 = .ok (.istore 5, 2) := by decide +kernel
theorem d_M_turn_83 : decode b_M_turn 83 = .ok (.iload 5, 2) := by decide +kernel
theorem d_M_turn_85 : decode b_M_turn 85 = .ok (.aload_n 0, 1) := by decide +kernel
theorem d_M_turn_86 : decode b_M_turn 86 = .ok (.getfield 7, 3) := by decide +kernel
theorem d_M_turn_89 : decode b_M_turn 89 = .ok (.iload 4, 2) := by decide +kernel
theorem d_M_turn_91 : decode b_M_turn 91 = .ok (.iaload, 1) := by decide +kernel
theorem d_M_turn_92 : decode b_M_turn 92 = .ok (.if_icmp .gt 28, 3) := by decide +kernel
theorem d_M_turn_95 : decode b_M_turn 95 = .ok (.aload_n 0, 1) := by decide +kernel
theorem d_M_turn_96 : decode b_M_turn 96 = .ok (.getfield 31, 3) := by decide +kernel
theorem d_M_turn_99 : decode b_M_turn 99 = .ok (.iload_n 1, 1) := by decide +kernel
theorem d_M_turn_100 : decode b_M_turn 100 = .ok (.iload 5, 2) := by decide +kernel
theorem d_M_turn_102 : decode b_M_turn 102 = .ok (.iadd, 1) := by decide +kernel
theorem d_M_turn_103 : decode b_M_turn 103 = .ok (.aload_n 0, 1) := by decide +kernel
theorem d_M_turn_104 : decode b_M_turn 104 = .ok (.iload 4, 2) := by decide +kernel
theorem d_M_turn_106 : decode b_M_turn 106 = .ok (.iload_n 2, 1) := by decide +kernel
theorem d_M_turn_107 : decode b_M_turn 107 = .ok (.iload_n 3, 1) := by decide +kernel
theorem d_M_turn_108 : decode b_M_turn 108 = .ok (.iload 5, 2) := by decide +kernel
theorem d_M_turn_110 : decode b_M_turn 110 = .ok (.invokevirtual 114, 3) := by decide +kernel
theorem d_M_turn_113 : decode b_M_turn 113 = .ok (.iastore, 1) := by decide +kernel
theorem d_M_turn_114 : decode b_M_turn 114 = .ok (.iinc 5 1, 3) := by decide +kernel
theorem d_M_turn_117 : decode b_M_turn 117 = .ok (.goto (-34), 3) := by decide +kernel
theorem d_M_turn_120 : decode b_M_turn 120 = .ok (.aload_n 0, 1) := by decide +kernel
theorem d_M_turn_121 : decode b_M_turn 121 = .ok (.getfield 7, 3) := by decide +kernel
theorem d_M_turn_124 : decode b_M_turn 124 = .ok (.iload 4, 2) := by decide +kernel
theorem d_M_turn_126 : decode b_M_turn 126 = .ok (.iaload, 1) := by decide +kernel
theorem d_M_turn_127 : decode b_M_turn 127 = .ok (.istore_n 2, 1) := by decide +kernel
theorem d_M_turn_128 : decode b_M_turn 128 = .ok (.aload_n 0, 1) := by decide +kernel
theorem d_M_turn_129 : decode b_M_turn 129 = .ok (.getfield 13, 3) := by decide +kernel
theorem d_M_turn_132 : decode b_M_turn 132 = .ok (.iload 4, 2) := by decide +kernel
theorem d_M_turn_134 : decode b_M_turn 134 = .ok (.iaload, 1) := by decide +kernel
theorem d_M_turn_135 : decode b_M_turn 135 = .ok (.istore_n 3, 1) := by decide +kernel
theorem d_M_turn_136 : decode b_M_turn 136 = .ok (.iinc 4 1, 3) := by decide +kernel
theorem d_M_turn_139 : decode b_M_turn 139 = .ok (.goto (-70), 3) := by decide +kernel
theorem d_M_turn_142 : decode b_M_turn 142 = .ok (.aload_n 0, 1) := by decide +kernel
theorem d_M_turn_143 : decode b_M_turn 143 = .ok (.getfield 25, 3) := by decide +kernel
theorem d_M_turn_146 : decode b_M_turn 146 = .ok (.aload_n 0, 1) := by decide +kernel
theorem d_M_turn_147 : decode b_M_turn 147 = .ok (.getfield 111, 3) := by decide +kernel
theorem d_M_turn_150 : decode b_M_turn 150 = .ok (.iload_n 2, 1) := by decide +kernel
theorem d_M_turn_151 : decode b_M_turn 151 = .ok (.iastore, 1) := by decide +kernel
theorem d_M_turn_152 : decode b_M_turn 152 = .ok (.aload_n 0, 1) := by decide +kernel
theorem d_M_turn_153 : decode b_M_turn 153 = .ok (.getfield 28, 3) := by decide +kernel
theorem d_M_turn_156 : decode b_M_turn 156 = .ok (.aload_n 0, 1) := by decide +kernel
theorem d_M_turn_157 : decode b_M_turn 157 = .ok (.getfield 111, 3) := by decide +kernel
theorem d_M_turn_160 : decode b_M_turn 160 = .ok (.aload_n 0, 1) := by decide +kernel
theorem d_M_turn_161 : decode b_M_turn 161 = .ok (.getfield 75, 3) := by decide +kernel
theorem d_M_turn_164 : decode b_M_turn 164 = .ok (.iastore, 1) := by decide +kernel
theorem d_M_turn_165 : decode b_M_turn 165 = .ok (.aload_n 0, 1) := by decide +kernel
theorem d_M_turn_166 : decode b_M_turn 166 = .ok (.dup, 1) := by decide +kernel
theorem d_M_turn_167 : decode b_M_turn 167 = .ok (.getfield 111, 3) := by decide +kernel
theorem d_M_turn_170 : decode b_M_turn 170 = .ok (.iconst 1, 1) := by decide +kernel
theorem d_M_turn_171 : decode b_M_turn 171 = .ok (.iadd, 1) := by decide +kernel
theorem d_M_turn_172 : decode b_M_turn 172 = .ok (.putfield 111, 3) := by decide +kernel
theorem d_M_turn_175 : decode b_M_turn 175 = .ok (.aload_n 0, 1) := by decide +kernel
theorem d_M_turn_176 : decode b_M_turn 176 = .ok (.getfield 111, 3) := by decide +kernel
theorem d_M_turn_179 : decode b_M_turn 179 = .ok (.iconst 1, 1) := by decide +kernel
theorem d_M_turn_180 : decode b_M_turn 180 = .ok (.isub, 1) := by decide +kernel
theorem d_M_turn_181 : decode b_M_turn 181 = .ok (.ireturn, 1) := by decide +kernel
theorem d_M_volume_0 : decode b_M_volume 0 = .ok (.aload_n 0, 1) := by decide +kernel
theorem d_M_volume_1 : decode b_M_volume 1 = .ok (.aload_n 0, 1) := by decide +kernel
theorem d_M_volume_2 : decode b_M_volume 2 = .ok (.iload_n 1, 1) := by decide +kernel
theorem d_M_volume_3 : decode b_M_volume 3 = .ok (.invokevirtual 117, 3) := by decide +kernel
theorem d_M_volume_6 : decode b_M_volume 6 = .ok (.ifCond .eq 7, 3) := by decide +kernel
theorem d_M_volume_9 : decode b_M_volume 9 = .ok (.iconst 0, 1) := by decide +kernel
theorem d_M_volume_10 : decode b_M_volume 10 = .ok (.goto 4, 3) := by decide +kernel
theorem d_M_volume_13 : decode b_M_volume 13 = .ok (.iconst 1, 1) := by decide +kernel
theorem d_M_volume_14 : decode b_M_volume 14 = .ok (.putfield 58, 3) := by decide +kernel
theorem d_M_volume_17 : decode b_M_volume 17 = .ok (.lconst 0, 1) := by decide +kernel
theorem d_M_volume_18 : decode b_M_volume 18 = .ok (.lstore_n 3, 1) := by decide +kernel
theorem d_M_volume_19 : decode b_M_volume 19 = .ok (.iconst 1, 1) := by decide +kernel
theorem d_M_volume_20 : decode b_M_volume 20 = .ok (.istore 5, 2) := by decide +kernel
theorem d_M_volume_22 : decode b_M_volume 22 = .ok (.aload_n 0, 1) := by decide +kernel
theorem d_M_volume_23 : decode b_M_volume 23 = .ok (.getfield 58, 3) := by decide +kernel
theorem d_M_volume_26 : decode b_M_volume 26 = .ok (.ifCond .ne 85, 3) := by decide +kernel
theorem d_M_volume_29 : decode b_M_volume 29 = .ok (.iload 5, 2) := by decide +kernel
theorem d_M_volume_31 : decode b_M_volume 31 = .ok (.aload_n 0, 1) := by decide +kernel
theorem d_M_volume_32 : decode b_M_volume 32 = .ok (.getfield 25, 3) := by decide +kernel
theorem d_M_volume_35 : decode b_M_volume 35 = .ok (.iload_n 1, 1) := by decide +kernel
theorem d_M_volume_36 : decode b_M_volume 36 = .ok (.iaload, 1) := by decide +kernel
theorem d_M_volume_37 : decode b_M_volume 37 = .ok (.if_icmp .gt 74, 3) := by decide +kernel
theorem d_M_volume_40 : decode b_M_volume 40 = .ok (.aload_n 0, 1) := by decide +kernel
theorem d_M_volume_41 : decode b_M_volume 41 = .ok (.getfield 31, 3) := by decide +kernel
theorem d_M_volume_44 : decode b_M_volume 44 = .ok (.bipush 65, 2) := by decide +kernel
theorem d_M_volume_46 : decode b_M_volume 46 = .ok (.iload_n 1, 1) := by decide +kernel
theorem d_M_volume_47 : decode b_M_volume 47 = .ok (.imul, 1) := by decide +kernel
theorem d_M_volume_48 : decode b_M_volume 48 = .ok (.iload 5, 2) := by decide +kernel
theorem d_M_volume_50 : decode b_M_volume 50 = .ok (.iadd, 1) := by decide +kernel
theorem d_M_volume_51 : decode b_M_volume 51 = .ok (.iconst 1, 1) := by decide +kernel
theorem d_M_volume_52 : decode b_M_volume 52 = .ok (.isub, 1) := by decide +kernel
theorem d_M_volume_53 : decode b_M_volume 53 = .ok (.iaload, 1) := by decide +kernel
theorem d_M_volume_54 : decode b_M_volume 54 = .ok (.istore 6, 2) := by decide +kernel
theorem d_M_volume_56 : decode b_M_volume 56 = .ok (.aload_n 0, 1) := by decide +kernel
theorem d_M_volume_57 : decode b_M_volume 57 = .ok (.getfield 31, 3) := by decide +kernel
theorem d_M_volume_60 : decode b_M_volume 60 = .ok (.bipush 65, 2) := by decide +kernel
theorem d_M_volume_62 : decode b_M_volume 62 = .ok (.iload_n 1, 1) := by decide +kernel
theorem d_M_volume_63 : decode b_M_volume 63 = .ok (.imul, 1) := by decide +kernel
theorem d_M_volume_64 : decode b_M_volume 64 = .ok (.iload 5, 2) := by decide +kernel
theorem d_M_volume_66 : decode b_M_volume 66 = .ok (.iadd, 1) := by decide +kernel
theorem d_M_volume_67 : decode b_M_volume 67 = .ok (.iaload, 1) := by decide +kernel
theorem d_M_volume_68 : decode b_M_volume 68 = .ok (.istore 7, 2) := by decide +kernel
theorem d_M_volume_70 : decode b_M_volume 70 = .ok (.iload 6, 2) := by decide +kernel
theorem d_M_volume_72 : decode b_M_volume 72 = .ok (.iload 7, 2) := by decide +kernel
theorem d_M_volume_74 : decode b_M_volume 74 = .ok (.if_icmp .ge 7, 3) := by decide +kernel
theorem d_M_volume_77 : decode b_M_volume 77 = .ok (.iconst 1, 1) := by decide +kernel
theorem d_M_volume_78 : decode b_M_volume 78 = .ok (.goto 4, 3) := by decide +kernel
theorem d_M_volume_81 : decode b_M_volume 81 = .ok (.iconst 0, 1) := by decide +kernel
theorem d_M_volume_82 : decode b_M_volume 82 = .ok (.iload_n 2, 1) := by decide +kernel
theorem d_M_volume_83 : decode b_M_volume 83 = .ok (.if_icmp .ne 8, 3) := by decide +kernel
theorem d_M_volume_86 : decode b_M_volume 86 = .ok (.iload 7, 2) := by decide +kernel
theorem d_M_volume_88 : decode b_M_volume 88 = .ok (.goto 5, 3) := by decide +kernel
theorem d_M_volume_91 : decode b_M_volume 91 = .ok (.iload 6, 2) := by decide +kernel
theorem d_M_volume_93 : decode b_M_volume 93 = .ok (.istore 8, 2) := by decide +kernel
theorem d_M_volume_95 : decode b_M_volume 95 = .ok (.lload_n 3, 1) := by decide +kernel
theorem d_M_volume_96 : decode b_M_volume 96 = .ok (.iload 8, 2) := by decide +kernel
theorem d_M_volume_98 : decode b_M_volume 98 = .ok (.i2l, 1) := by decide +kernel
theorem d_M_volume_99 : decode b_M_volume 99 = .ok (.iload 8, 2) := by decide +kernel
theorem d_M_volume_101 : decode b_M_volume 101 = .ok (.i2l, 1) := by decide +kernel
theorem d_M_volume_102 : decode b_M_volume 102 = .ok (.lmul, 1) := by decide +kernel
theorem d_M_volume_103 : decode b_M_volume 103 = .ok (.ladd, 1) := by decide +kernel
theorem d_M_volume_104 : decode b_M_volume 104 = .ok (.lstore_n 3, 1) := by decide +kernel
theorem d_M_volume_105 : decode b_M_volume 105 = .ok (.iinc 5 1, 3) := by decide +kernel
theorem d_M_volume_108 : decode b_M_volume 108 = .ok (.goto (-86), 3) := by decide +kernel
theorem d_M_volume_111 : decode b_M_volume 111 = .ok (.aload_n 0, 1) := by decide +kernel
theorem d_M_volume_112 : decode b_M_volume 112 = .ok (.getfield 58, 3) := by decide +kernel
theorem d_M_volume_115 : decode b_M_volume 115 = .ok (.ifCond .le 7, 3) := by decide +kernel
theorem d_M_volume_118 : decode b_M_volume 118 = .ok (.lconst 0, 1) := by decide +kernel
theorem d_M_volume_119 : decode b_M_volume 119 = .ok (.goto 30, 3) := by decide +kernel
theorem d_M_volume_122 : decode b_M_volume 122 = .ok (.iload_n 2, 1) := by decide +kernel
theorem d_M_volume_123 : decode b_M_volume 123 = .ok (.ifCond .eq 17, 3) := by decide +kernel
theorem d_M_volume_126 : decode b_M_volume 126 = .ok (.lload_n 3, 1) := by decide +kernel
theorem d_M_volume_127 : decode b_M_volume 127 = .ok (.ldc2_w 154, 3) := by decide +kernel
theorem d_M_volume_130 : decode b_M_volume 130 = .ok (.lmul, 1) := by decide +kernel
theorem d_M_volume_131 : decode b_M_volume 131 = .ok (.ldc2_w 156, 3) := by decide +kernel
theorem d_M_volume_134 : decode b_M_volume 134 = .ok (.ldiv, 1) := by decide +kernel
theorem d_M_volume_135 : decode b_M_volume 135 = .ok (.lconst 1, 1) := by decide +kernel
theorem d_M_volume_136 : decode b_M_volume 136 = .ok (.ladd, 1) := by decide +kernel
theorem d_M_volume_137 : decode b_M_volume 137 = .ok (.goto 12, 3) := by decide +kernel
theorem d_M_volume_140 : decode b_M_volume 140 = .ok (.lload_n 3, 1) := by decide +kernel
theorem d_M_volume_141 : decode b_M_volume 141 = .ok (.ldc2_w 158, 3) := by decide +kernel
theorem d_M_volume_144 : decode b_M_volume 144 = .ok (.lmul, 1) := by decide +kernel
theorem d_M_volume_145 : decode b_M_volume 145 = .ok (.ldc2_w 156, 3) := by decide +kernel
theorem d_M_volume_148 : decode b_M_volume 148 = .ok (.ldiv, 1) := by decide +kernel
theorem d_M_volume_149 : decode b_M_volume 149 = .ok (.lreturn, 1) := by decide +kernel
theorem d_M_wantedBelow_0 : decode b_M_wantedBelow 0 = .ok (.iconst 0, 1) := by decide +kernel
theorem d_M_wantedBelow_1 : decode b_M_wantedBelow 1 = .ok (.istore 5, 2) := by decide +kernel
theorem d_M_wantedBelow_3 : decode b_M_wantedBelow 3 = .ok (.aload_n 0, 1) := by decide +kernel
theorem d_M_wantedBelow_4 : decode b_M_wantedBelow 4 = .ok (.iload_n 1, 1) := by decide +kernel
theorem d_M_wantedBelow_5 : decode b_M_wantedBelow 5 = .ok (.invokevirtual 127, 3) := by decide +kernel
theorem d_M_wantedBelow_8 : decode b_M_wantedBelow 8 = .ok (.istore 6, 2) := by decide +kernel
theorem d_M_wantedBelow_10 : decode b_M_wantedBelow 10 = .ok (.iconst 0, 1) := by decide +kernel
theorem d_M_wantedBelow_11 : decode b_M_wantedBelow 11 = .ok (.istore 7, 2) := by decide +kernel
theorem d_M_wantedBelow_13 : decode b_M_wantedBelow 13 = .ok (.iload 7, 2) := by decide +kernel
theorem d_M_wantedBelow_15 : decode b_M_wantedBelow 15 = .ok (.aload_n 0, 1) := by decide +kernel
theorem d_M_wantedBelow_16 : decode b_M_wantedBelow 16 = .ok (.getfield 25, 3) := by decide +kernel
theorem d_M_wantedBelow_19 : decode b_M_wantedBelow 19 = .ok (.iload_n 1, 1) := by decide +kernel
theorem d_M_wantedBelow_20 : decode b_M_wantedBelow 20 = .ok (.iaload, 1) := by decide +kernel
theorem d_M_wantedBelow_21 : decode b_M_wantedBelow 21 = .ok (.if_icmp .gt 57, 3) := by decide +kernel
theorem d_M_wantedBelow_24 : decode b_M_wantedBelow 24 = .ok (.aload_n 0, 1) := by decide +kernel
theorem d_M_wantedBelow_25 : decode b_M_wantedBelow 25 = .ok (.getfield 40, 3) := by decide +kernel
theorem d_M_wantedBelow_28 : decode b_M_wantedBelow 28 = .ok (.iload 7, 2) := by decide +kernel
theorem d_M_wantedBelow_30 : decode b_M_wantedBelow 30 = .ok (.iaload, 1) := by decide +kernel
theorem d_M_wantedBelow_31 : decode b_M_wantedBelow 31 = .ok (.iload_n 2, 1) := by decide +kernel
theorem d_M_wantedBelow_32 : decode b_M_wantedBelow 32 = .ok (.iadd, 1) := by decide +kernel
theorem d_M_wantedBelow_33 : decode b_M_wantedBelow 33 = .ok (.iload 6, 2) := by decide +kernel
theorem d_M_wantedBelow_35 : decode b_M_wantedBelow 35 = .ok (.if_icmp .le 8, 3) := by decide +kernel
theorem d_M_wantedBelow_38 : decode b_M_wantedBelow 38 = .ok (.iload 6, 2) := by decide +kernel
theorem d_M_wantedBelow_40 : decode b_M_wantedBelow 40 = .ok (.goto 12, 3) := by decide +kernel
theorem d_M_wantedBelow_43 : decode b_M_wantedBelow 43 = .ok (.aload_n 0, 1) := by decide +kernel
theorem d_M_wantedBelow_44 : decode b_M_wantedBelow 44 = .ok (.getfield 40, 3) := by decide +kernel
theorem d_M_wantedBelow_47 : decode b_M_wantedBelow 47 = .ok (.iload 7, 2) := by decide +kernel
theorem d_M_wantedBelow_49 : decode b_M_wantedBelow 49 = .ok (.iaload, 1) := by decide +kernel
theorem d_M_wantedBelow_50 : decode b_M_wantedBelow 50 = .ok (.iload_n 2, 1) := by decide +kernel
theorem d_M_wantedBelow_51 : decode b_M_wantedBelow 51 = .ok (.iadd, 1) := by decide +kernel
theorem d_M_wantedBelow_52 : decode b_M_wantedBelow 52 = .ok (.istore 8, 2) := by decide +kernel
theorem d_M_wantedBelow_54 : decode b_M_wantedBelow 54 = .ok (.iload 5, 2) := by decide +kernel
theorem d_M_wantedBelow_56 : decode b_M_wantedBelow 56 = .ok (.iload 8, 2) := by decide +kernel
theorem d_M_wantedBelow_58 : decode b_M_wantedBelow 58 = .ok (.i2l, 1) := by decide +kernel
theorem d_M_wantedBelow_59 : decode b_M_wantedBelow 59 = .ok (.lload_n 3, 1) := by decide +kernel
theorem d_M_wantedBelow_60 : decode b_M_wantedBelow 60 = .ok (.lcmp, 1) := by decide +kernel
theorem d_M_wantedBelow_61 : decode b_M_wantedBelow 61 = .ok (.ifCond .ge 7, 3) := by decide +kernel
theorem d_M_wantedBelow_64 : decode b_M_wantedBelow 64 = .ok (.iconst 1, 1) := by decide +kernel
theorem d_M_wantedBelow_65 : decode b_M_wantedBelow 65 = .ok (.goto 4, 3) := by decide +kernel
theorem d_M_wantedBelow_68 : decode b_M_wantedBelow 68 = .ok (.iconst 0, 1) := by decide +kernel
theorem d_M_wantedBelow_69 : decode b_M_wantedBelow 69 = .ok (.iadd, 1) := by decide +kernel
theorem d_M_wantedBelow_70 : decode b_M_wantedBelow 70 = .ok (.istore 5, 2) := by decide +kernel
theorem d_M_wantedBelow_72 : decode b_M_wantedBelow 72 = .ok (.iinc 7 1, 3) := by decide +kernel
theorem d_M_wantedBelow_75 : decode b_M_wantedBelow 75 = .ok (.goto (-62), 3) := by decide +kernel
theorem d_M_wantedBelow_78 : decode b_M_wantedBelow 78 = .ok (.iload 5, 2) := by decide +kernel
theorem d_M_wantedBelow_80 : decode b_M_wantedBelow 80 = .ok (.ireturn, 1) := by decide +kernel
theorem d_M_wedge_0 : decode b_M_wedge 0 = .ok (.aload_n 0, 1) := by decide +kernel
theorem d_M_wedge_1 : decode b_M_wedge 1 = .ok (.iload_n 1, 1) := by decide +kernel
theorem d_M_wedge_2 : decode b_M_wedge 2 = .ok (.i2l, 1) := by decide +kernel
theorem d_M_wedge_3 : decode b_M_wedge 3 = .ok (.lconst 0, 1) := by decide +kernel
theorem d_M_wedge_4 : decode b_M_wedge 4 = .ok (.aload_n 0, 1) := by decide +kernel
theorem d_M_wedge_5 : decode b_M_wedge 5 = .ok (.getfield 160, 3) := by decide +kernel
theorem d_M_wedge_8 : decode b_M_wedge 8 = .ok (.iconst 1, 1) := by decide +kernel
theorem d_M_wedge_9 : decode b_M_wedge 9 = .ok (.isub, 1) := by decide +kernel
theorem d_M_wedge_10 : decode b_M_wedge 10 = .ok (.i2l, 1) := by decide +kernel
theorem d_M_wedge_11 : decode b_M_wedge 11 = .ok (.invokestatic 64, 3) := by decide +kernel
theorem d_M_wedge_14 : decode b_M_wedge 14 = .ok (.ifCond .ne 7, 3) := by decide +kernel
theorem d_M_wedge_17 : decode b_M_wedge 17 = .ok (.iconst 1, 1) := by decide +kernel
theorem d_M_wedge_18 : decode b_M_wedge 18 = .ok (.goto 47, 3) := by decide +kernel
theorem d_M_wedge_21 : decode b_M_wedge 21 = .ok (.iload_n 2, 1) := by decide +kernel
theorem d_M_wedge_22 : decode b_M_wedge 22 = .ok (.i2l, 1) := by decide +kernel
theorem d_M_wedge_23 : decode b_M_wedge 23 = .ok (.lconst 1, 1) := by decide +kernel
theorem d_M_wedge_24 : decode b_M_wedge 24 = .ok (.ldc2_w 163, 3) := by decide +kernel
theorem d_M_wedge_27 : decode b_M_wedge 27 = .ok (.invokestatic 64, 3) := by decide +kernel
theorem d_M_wedge_30 : decode b_M_wedge 30 = .ok (.ifCond .eq 15, 3) := by decide +kernel
theorem d_M_wedge_33 : decode b_M_wedge 33 = .ok (.iload_n 3, 1) := by decide +kernel
theorem d_M_wedge_34 : decode b_M_wedge 34 = .ok (.i2l, 1) := by decide +kernel
theorem d_M_wedge_35 : decode b_M_wedge 35 = .ok (.lconst 1, 1) := by decide +kernel
theorem d_M_wedge_36 : decode b_M_wedge 36 = .ok (.ldc2_w 130, 3) := by decide +kernel
theorem d_M_wedge_39 : decode b_M_wedge 39 = .ok (.invokestatic 64, 3) := by decide +kernel
theorem d_M_wedge_42 : decode b_M_wedge 42 = .ok (.ifCond .ne 7, 3) := by decide +kernel
theorem d_M_wedge_45 : decode b_M_wedge 45 = .ok (.iconst 2, 1) := by decide +kernel
theorem d_M_wedge_46 : decode b_M_wedge 46 = .ok (.goto 19, 3) := by decide +kernel
theorem d_M_wedge_49 : decode b_M_wedge 49 = .ok (.aload_n 0, 1) := by decide +kernel
theorem d_M_wedge_50 : decode b_M_wedge 50 = .ok (.getfield 43, 3) := by decide +kernel
theorem d_M_wedge_53 : decode b_M_wedge 53 = .ok (.iload_n 1, 1) := by decide +kernel
theorem d_M_wedge_54 : decode b_M_wedge 54 = .ok (.iaload, 1) := by decide +kernel
theorem d_M_wedge_55 : decode b_M_wedge 55 = .ok (.bipush 16, 2) := by decide +kernel
theorem d_M_wedge_57 : decode b_M_wedge 57 = .ok (.if_icmp .ne 7, 3) := by decide +kernel
theorem d_M_wedge_60 : decode b_M_wedge 60 = .ok (.iconst 3, 1) := by decide +kernel
theorem d_M_wedge_61 : decode b_M_wedge 61 = .ok (.goto 4, 3) := by decide +kernel
theorem d_M_wedge_64 : decode b_M_wedge 64 = .ok (.iconst 0, 1) := by decide +kernel
theorem d_M_wedge_65 : decode b_M_wedge 65 = .ok (.putfield 58, 3) := by decide +kernel
theorem d_M_wedge_68 : decode b_M_wedge 68 = .ok (.aload_n 0, 1) := by decide +kernel
theorem d_M_wedge_69 : decode b_M_wedge 69 = .ok (.getfield 58, 3) := by decide +kernel
theorem d_M_wedge_72 : decode b_M_wedge 72 = .ok (.ifCond .le 5, 3) := by decide +kernel
theorem d_M_wedge_75 : decode b_M_wedge 75 = .ok (.iconst 0, 1) := by decide +kernel
theorem d_M_wedge_76 : decode b_M_wedge 76 = .ok (.ireturn, 1) := by decide +kernel
theorem d_M_wedge_77 : decode b_M_wedge 77 = .ok (.aload_n 0, 1) := by decide +kernel
theorem d_M_wedge_78 : decode b_M_wedge 78 = .ok (.getfield 46, 3) := by decide +kernel
theorem d_M_wedge_81 : decode b_M_wedge 81 = .ok (.bipush 16, 2) := by decide +kernel
theorem d_M_wedge_83 : decode b_M_wedge 83 = .ok (.iload_n 1, 1) := by decide +kernel
theorem d_M_wedge_84 : decode b_M_wedge 84 = .ok (.imul, 1) := by decide +kernel
theorem d_M_wedge_85 : decode b_M_wedge 85 = .ok (.aload_n 0, 1) := by decide +kernel
theorem d_M_wedge_86 : decode b_M_wedge 86 = .ok (.getfield 43, 3) := by decide +kernel
theorem d_M_wedge_89 : decode b_M_wedge 89 = .ok (.iload_n 1, 1) := by decide +kernel
theorem d_M_wedge_90 : decode b_M_wedge 90 = .ok (.iaload, 1) := by decide +kernel
theorem d_M_wedge_91 : decode b_M_wedge 91 = .ok (.iadd, 1) := by decide +kernel
theorem d_M_wedge_92 : decode b_M_wedge 92 = .ok (.iload_n 2, 1) := by decide +kernel
theorem d_M_wedge_93 : decode b_M_wedge 93 = .ok (.iastore, 1) := by decide +kernel
theorem d_M_wedge_94 : decode b_M_wedge 94 = .ok (.aload_n 0, 1) := by decide +kernel
theorem d_M_wedge_95 : decode b_M_wedge 95 = .ok (.getfield 49, 3) := by decide +kernel
theorem d_M_wedge_98 : decode b_M_wedge 98 = .ok (.bipush 16, 2) := by decide +kernel
theorem d_M_wedge_100 : decode b_M_wedge 100 = .ok (.iload_n 1, 1) := by decide +kernel
theorem d_M_wedge_101 : decode b_M_wedge 101 = .ok (.imul, 1) := by decide +kernel
theorem d_M_wedge_102 : decode b_M_wedge 102 = .ok (.aload_n 0, 1) := by decide +kernel
theorem d_M_wedge_103 : decode b_M_wedge 103 = .ok (.getfield 43, 3) := by decide +kernel
theorem d_M_wedge_106 : decode b_M_wedge 106 = .ok (.iload_n 1, 1) := by decide +kernel
theorem d_M_wedge_107 : decode b_M_wedge 107 = .ok (.iaload, 1) := by decide +kernel
theorem d_M_wedge_108 : decode b_M_wedge 108 = .ok (.iadd, 1) := by decide +kernel
theorem d_M_wedge_109 : decode b_M_wedge 109 = .ok (.iload_n 3, 1) := by decide +kernel
theorem d_M_wedge_110 : decode b_M_wedge 110 = .ok (.iastore, 1) := by decide +kernel
theorem d_M_wedge_111 : decode b_M_wedge 111 = .ok (.aload_n 0, 1) := by decide +kernel
theorem d_M_wedge_112 : decode b_M_wedge 112 = .ok (.getfield 43, 3) := by decide +kernel
theorem d_M_wedge_115 : decode b_M_wedge 115 = .ok (.iload_n 1, 1) := by decide +kernel
theorem d_M_wedge_116 : decode b_M_wedge 116 = .ok (.dup2, 1) := by decide +kernel
theorem d_M_wedge_117 : decode b_M_wedge 117 = .ok (.iaload, 1) := by decide +kernel
theorem d_M_wedge_118 : decode b_M_wedge 118 = .ok (.iconst 1, 1) := by decide +kernel
theorem d_M_wedge_119 : decode b_M_wedge 119 = .ok (.iadd, 1) := by decide +kernel
theorem d_M_wedge_120 : decode b_M_wedge 120 = .ok (.iastore, 1) := by decide +kernel
theorem d_M_wedge_121 : decode b_M_wedge 121 = .ok (.aload_n 0, 1) := by decide +kernel
theorem d_M_wedge_122 : decode b_M_wedge 122 = .ok (.getfield 43, 3) := by decide +kernel
theorem d_M_wedge_125 : decode b_M_wedge 125 = .ok (.iload_n 1, 1) := by decide +kernel
theorem d_M_wedge_126 : decode b_M_wedge 126 = .ok (.iaload, 1) := by decide +kernel
theorem d_M_wedge_127 : decode b_M_wedge 127 = .ok (.ireturn, 1) := by decide +kernel
