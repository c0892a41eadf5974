theorem d_C_about_0 : decode b_C_about 0 = .ok (.aload_n 0, 1) := by decide +kernel
theorem d_C_about_1 : decode b_C_about 1 = .ok (.iload_n 1, 1) := by decide +kernel
theorem d_C_about_2 : decode b_C_about 2 = .ok (.invokevirtual 94, 3) := by decide +kernel
theorem d_C_about_5 : decode b_C_about 5 = .ok (.astore_n 3, 1) := by decide +kernel
theorem d_C_about_6 : decode b_C_about 6 = .ok (.iload_n 2, 1) := by decide +kernel
theorem d_C_about_7 : decode b_C_about 7 = .ok (.tableswitch 40 0 2 #[25, 30, 35], 25) := by decide +kernel
theorem d_C_about_32 : decode b_C_about 32 = .ok (.aload_n 3, 1) := by decide +kernel
theorem d_C_about_33 : decode b_C_about 33 = .ok (.getfield 98, 3) := by decide +kernel
theorem d_C_about_36 : decode b_C_about 36 = .ok (.ireturn, 1) := by decide +kernel
theorem d_C_about_37 : decode b_C_about 37 = .ok (.aload_n 3, 1) := by decide +kernel
theorem d_C_about_38 : decode b_C_about 38 = .ok (.getfield 101, 3) := by decide +kernel
theorem d_C_about_41 : decode b_C_about 41 = .ok (.ireturn, 1) := by decide +kernel
theorem d_C_about_42 : decode b_C_about 42 = .ok (.aload_n 3, 1) := by decide +kernel
theorem d_C_about_43 : decode b_C_about 43 = .ok (.getfield 104, 3) := by decide +kernel
theorem d_C_about_46 : decode b_C_about 46 = .ok (.ireturn, 1) := by decide +kernel
theorem d_C_about_47 : decode b_C_about 47 = .ok (.new 105, 3) := by decide +kernel
theorem d_C_about_50 : decode b_C_about 50 = .ok (.dup, 1) := by decide +kernel
theorem d_C_about_51 : decode b_C_about 51 = .ok (.ldc 107, 2) := by decide +kernel
theorem d_C_about_53 : decode b_C_about 53 = .ok (.invokespecial 109, 3) := by decide +kernel
theorem d_C_about_56 : decode b_C_about 56 = .ok (.athrow, 1) := by decide +kernel
theorem d_C_arc_0 : decode b_C_arc 0 = .ok (.iload_n 1, 1) := by decide +kernel
theorem d_C_arc_1 : decode b_C_arc 1 = .ok (.iload_n 2, 1) := by decide +kernel
theorem d_C_arc_2 : decode b_C_arc 2 = .ok (.invokestatic 55, 3) := by decide +kernel
theorem d_C_arc_5 : decode b_C_arc 5 = .ok (.iload_n 3, 1) := by decide +kernel
theorem d_C_arc_6 : decode b_C_arc 6 = .ok (.sipush (-200), 3) := by decide +kernel
theorem d_C_arc_9 : decode b_C_arc 9 = .ok (.sipush 300, 3) := by decide +kernel
theorem d_C_arc_12 : decode b_C_arc 12 = .ok (.invokestatic 47, 3) := by decide +kernel
theorem d_C_arc_15 : decode b_C_arc 15 = .ok (.iload 4, 2) := by decide +kernel
theorem d_C_arc_17 : decode b_C_arc 17 = .ok (.sipush (-1000), 3) := by decide +kernel
theorem d_C_arc_20 : decode b_C_arc 20 = .ok (.sipush 1500, 3) := by decide +kernel
theorem d_C_arc_23 : decode b_C_arc 23 = .ok (.invokestatic 47, 3) := by decide +kernel
theorem d_C_arc_26 : decode b_C_arc 26 = .ok (.aload_n 0, 1) := by decide +kernel
theorem d_C_arc_27 : decode b_C_arc 27 = .ok (.iload_n 1, 1) := by decide +kernel
theorem d_C_arc_28 : decode b_C_arc 28 = .ok (.invokevirtual 59, 3) := by decide +kernel
theorem d_C_arc_31 : decode b_C_arc 31 = .ok (.aload_n 0, 1) := by decide +kernel
theorem d_C_arc_32 : decode b_C_arc 32 = .ok (.getfield 10, 3) := by decide +kernel
theorem d_C_arc_35 : decode b_C_arc 35 = .ok (.iload_n 1, 1) := by decide +kernel
theorem d_C_arc_36 : decode b_C_arc 36 = .ok (.iload_n 2, 1) := by decide +kernel
theorem d_C_arc_37 : decode b_C_arc 37 = .ok (.iload_n 3, 1) := by decide +kernel
theorem d_C_arc_38 : decode b_C_arc 38 = .ok (.iload 4, 2) := by decide +kernel
theorem d_C_arc_40 : decode b_C_arc 40 = .ok (.iload 5, 2) := by decide +kernel
theorem d_C_arc_42 : decode b_C_arc 42 = .ok (.invokevirtual 69, 3) := by decide +kernel
theorem d_C_arc_45 : decode b_C_arc 45 = .ok (.ifCond .ne 5, 3) := by decide +kernel
theorem d_C_arc_48 : decode b_C_arc 48 = .ok (.iconst 0, 1) := by decide +kernel
theorem d_C_arc_49 : decode b_C_arc 49 = .ok (.ireturn, 1) := by decide +kernel
theorem d_C_arc_50 : decode b_C_arc 50 = .ok (.aload_n 0, 1) := by decide +kernel
theorem d_C_arc_51 : decode b_C_arc 51 = .ok (.getfield 10, 3) := by decide +kernel
theorem d_C_arc_54 : decode b_C_arc 54 = .ok (.iload_n 1, 1) := by decide +kernel
theorem d_C_arc_55 : decode b_C_arc 55 = .ok (.iload_n 2, 1) := by decide +kernel
theorem d_C_arc_56 : decode b_C_arc 56 = .ok (.iload_n 3, 1) := by decide +kernel
theorem d_C_arc_57 : decode b_C_arc 57 = .ok (.iload 4, 2) := by decide +kernel
theorem d_C_arc_59 : decode b_C_arc 59 = .ok (.iload 5, 2) := by decide +kernel
theorem d_C_arc_61 : decode b_C_arc 61 = .ok (.invokevirtual 73, 3) := by decide +kernel
theorem d_C_arc_64 : decode b_C_arc 64 = .ok (.iconst 1, 1) := by decide +kernel
theorem d_C_arc_65 : decode b_C_arc 65 = .ok (.ireturn, 1) := by decide +kernel
theorem d_C_checkBehindLast_0 : decode b_C_checkBehindLast 0 = .ok (.aload_n 0, 1) := by decide +kernel
theorem d_C_checkBehindLast_1 : decode b_C_checkBehindLast 1 = .ok (.getfield 10, 3) := by decide +kernel
theorem d_C_checkBehindLast_4 : decode b_C_checkBehindLast 4 = .ok (.getfield 255, 3) := by decide +kernel
theorem d_C_checkBehindLast_7 : decode b_C_checkBehindLast 7 = .ok (.ifCond .ne 14, 3) := by decide +kernel
theorem d_C_checkBehindLast_10 : decode b_C_checkBehindLast 10 = .ok (.new 80, 3) := by decide +kernel
theorem d_C_checkBehindLast_13 : decode b_C_checkBehindLast 13 = .ok (.dup, 1) := by decide +kernel
theorem d_C_checkBehindLast_14 : decode b_C_checkBehindLast 14 = .ok (.ldc_w 259, 3) := by decide +kernel
theorem d_C_checkBehindLast_17 : decode b_C_checkBehindLast 17 = .ok (.invokespecial 84, 3) := by decide +kernel
theorem d_C_checkBehindLast_20 : decode b_C_checkBehindLast 20 = .ok (.athrow, 1) := by decide +kernel
theorem d_C_checkBehindLast_21 : decode b_C_checkBehindLast 21 = .ok (.iload_n 1, 1) := by decide +kernel
theorem d_C_checkBehindLast_22 : decode b_C_checkBehindLast 22 = .ok (.aload_n 0, 1) := by decide +kernel
theorem d_C_checkBehindLast_23 : decode b_C_checkBehindLast 23 = .ok (.getfield 10, 3) := by decide +kernel
theorem d_C_checkBehindLast_26 : decode b_C_checkBehindLast 26 = .ok (.getfield 261, 3) := by decide +kernel
theorem d_C_checkBehindLast_29 : decode b_C_checkBehindLast 29 = .ok (.if_icmp .gt 14, 3) := by decide +kernel
theorem d_C_checkBehindLast_32 : decode b_C_checkBehindLast 32 = .ok (.new 230, 3) := by decide +kernel
theorem d_C_checkBehindLast_35 : decode b_C_checkBehindLast 35 = .ok (.dup, 1) := by decide +kernel
theorem d_C_checkBehindLast_36 : decode b_C_checkBehindLast 36 = .ok (.ldc_w 264, 3) := by decide +kernel
theorem d_C_checkBehindLast_39 : decode b_C_checkBehindLast 39 = .ok (.invokespecial 234, 3) := by decide +kernel
theorem d_C_checkBehindLast_42 : decode b_C_checkBehindLast 42 = .ok (.athrow, 1) := by decide +kernel
theorem d_C_checkBehindLast_43 : decode b_C_checkBehindLast 43 = .ok (.return_, 1) := by decide +kernel
theorem d_C_checkNotBelow_0 : decode b_C_checkNotBelow 0 = .ok (.iload_n 0, 1) := by decide +kernel
theorem d_C_checkNotBelow_1 : decode b_C_checkNotBelow 1 = .ok (.iload_n 1, 1) := by decide +kernel
theorem d_C_checkNotBelow_2 : decode b_C_checkNotBelow 2 = .ok (.if_icmp .ge 14, 3) := by decide +kernel
theorem d_C_checkNotBelow_5 : decode b_C_checkNotBelow 5 = .ok (.new 230, 3) := by decide +kernel
theorem d_C_checkNotBelow_8 : decode b_C_checkNotBelow 8 = .ok (.dup, 1) := by decide +kernel
theorem d_C_checkNotBelow_9 : decode b_C_checkNotBelow 9 = .ok (.ldc_w 268, 3) := by decide +kernel
theorem d_C_checkNotBelow_12 : decode b_C_checkNotBelow 12 = .ok (.invokespecial 234, 3) := by decide +kernel
theorem d_C_checkNotBelow_15 : decode b_C_checkNotBelow 15 = .ok (.athrow, 1) := by decide +kernel
theorem d_C_checkNotBelow_16 : decode b_C_checkNotBelow 16 = .ok (.return_, 1) := by decide +kernel
theorem d_C_checkNumber_0 : decode b_C_checkNumber 0 = .ok (.iload_n 0, 1) := by decide +kernel
theorem d_C_checkNumber_1 : decode b_C_checkNumber 1 = .ok (.iload_n 1, 1) := by decide +kernel
theorem d_C_checkNumber_2 : decode b_C_checkNumber 2 = .ok (.if_icmp .lt 8, 3) := by decide +kernel
theorem d_C_checkNumber_5 : decode b_C_checkNumber 5 = .ok (.iload_n 0, 1) := by decide +kernel
theorem d_C_checkNumber_6 : decode b_C_checkNumber 6 = .ok (.iload_n 2, 1) := by decide +kernel
theorem d_C_checkNumber_7 : decode b_C_checkNumber 7 = .ok (.if_icmp .le 14, 3) := by decide +kernel
theorem d_C_checkNumber_10 : decode b_C_checkNumber 10 = .ok (.new 230, 3) := by decide +kernel
theorem d_C_checkNumber_13 : decode b_C_checkNumber 13 = .ok (.dup, 1) := by decide +kernel
theorem d_C_checkNumber_14 : decode b_C_checkNumber 14 = .ok (.ldc_w 266, 3) := by decide +kernel
theorem d_C_checkNumber_17 : decode b_C_checkNumber 17 = .ok (.invokespecial 234, 3) := by decide +kernel
theorem d_C_checkNumber_20 : decode b_C_checkNumber 20 = .ok (.athrow, 1) := by decide +kernel
theorem d_C_checkNumber_21 : decode b_C_checkNumber 21 = .ok (.return_, 1) := by decide +kernel
theorem d_C_checkPart_0 : decode b_C_checkPart 0 = .ok (.iload_n 0, 1) := by decide +kernel
theorem d_C_checkPart_1 : decode b_C_checkPart 1 = .ok (.ifCond .eq 19, 3) := by decide +kernel
theorem d_C_checkPart_4 : decode b_C_checkPart 4 = .ok (.iload_n 0, 1) := by decide +kernel
theorem d_C_checkPart_5 : decode b_C_checkPart 5 = .ok (.iconst 1, 1) := by decide +kernel
theorem d_C_checkPart_6 : decode b_C_checkPart 6 = .ok (.if_icmp .eq 14, 3) := by decide +kernel
theorem d_C_checkPart_9 : decode b_C_checkPart 9 = .ok (.new 105, 3) := by decide +kernel
theorem d_C_checkPart_12 : decode b_C_checkPart 12 = .ok (.dup, 1) := by decide +kernel
theorem d_C_checkPart_13 : decode b_C_checkPart 13 = .ok (.ldc_w 270, 3) := by decide +kernel
theorem d_C_checkPart_16 : decode b_C_checkPart 16 = .ok (.invokespecial 109, 3) := by decide +kernel
theorem d_C_checkPart_19 : decode b_C_checkPart 19 = .ok (.athrow, 1) := by decide +kernel
theorem d_C_checkPart_20 : decode b_C_checkPart 20 = .ok (.return_, 1) := by decide +kernel
theorem d_C_checkRough_0 : decode b_C_checkRough 0 = .ok (.iload_n 0, 1) := by decide +kernel
theorem d_C_checkRough_1 : decode b_C_checkRough 1 = .ok (.iconst 1, 1) := by decide +kernel
theorem d_C_checkRough_2 : decode b_C_checkRough 2 = .ok (.bipush 100, 2) := by decide +kernel
theorem d_C_checkRough_4 : decode b_C_checkRough 4 = .ok (.invokestatic 47, 3) := by decide +kernel
theorem d_C_checkRough_7 : decode b_C_checkRough 7 = .ok (.iload_n 1, 1) := by decide +kernel
theorem d_C_checkRough_8 : decode b_C_checkRough 8 = .ok (.iconst 0, 1) := by decide +kernel
theorem d_C_checkRough_9 : decode b_C_checkRough 9 = .ok (.bipush 50, 2) := by decide +kernel
theorem d_C_checkRough_11 : decode b_C_checkRough 11 = .ok (.invokestatic 47, 3) := by decide +kernel
theorem d_C_checkRough_14 : decode b_C_checkRough 14 = .ok (.return_, 1) := by decide +kernel
theorem d_C_checkWayEnd_0 : decode b_C_checkWayEnd 0 = .ok (.iload_n 0, 1) := by decide +kernel
theorem d_C_checkWayEnd_1 : decode b_C_checkWayEnd 1 = .ok (.iconst 1, 1) := by decide +kernel
theorem d_C_checkWayEnd_2 : decode b_C_checkWayEnd 2 = .ok (.bipush 64, 2) := by decide +kernel
theorem d_C_checkWayEnd_4 : decode b_C_checkWayEnd 4 = .ok (.invokestatic 47, 3) := by decide +kernel
theorem d_C_checkWayEnd_7 : decode b_C_checkWayEnd 7 = .ok (.iload_n 1, 1) := by decide +kernel
theorem d_C_checkWayEnd_8 : decode b_C_checkWayEnd 8 = .ok (.iconst 0, 1) := by decide +kernel
theorem d_C_checkWayEnd_9 : decode b_C_checkWayEnd 9 = .ok (.sipush 500, 3) := by decide +kernel
theorem d_C_checkWayEnd_12 : decode b_C_checkWayEnd 12 = .ok (.invokestatic 47, 3) := by decide +kernel
theorem d_C_checkWayEnd_15 : decode b_C_checkWayEnd 15 = .ok (.return_, 1) := by decide +kernel
theorem d_C_closes_0 : decode b_C_closes 0 = .ok (.aload_n 0, 1) := by decide +kernel
theorem d_C_closes_1 : decode b_C_closes 1 = .ok (.iload_n 1, 1) := by decide +kernel
theorem d_C_closes_2 : decode b_C_closes 2 = .ok (.invokevirtual 181, 3) := by decide +kernel
theorem d_C_closes_5 : decode b_C_closes 5 = .ok (.invokevirtual 210, 3) := by decide +kernel
theorem d_C_closes_8 : decode b_C_closes 8 = .ok (.lconst 0, 1) := by decide +kernel
theorem d_C_closes_9 : decode b_C_closes 9 = .ok (.lcmp, 1) := by decide +kernel
theorem d_C_closes_10 : decode b_C_closes 10 = .ok (.ifCond .ne 7, 3) := by decide +kernel
theorem d_C_closes_13 : decode b_C_closes 13 = .ok (.iconst 1, 1) := by decide +kernel
theorem d_C_closes_14 : decode b_C_closes 14 = .ok (.goto 4, 3) := by decide +kernel
theorem d_C_closes_17 : decode b_C_closes 17 = .ok (.iconst 0, 1) := by decide +kernel
theorem d_C_closes_18 : decode b_C_closes 18 = .ok (.ireturn, 1) := by decide +kernel
theorem d_C_commonDivisor_0 : decode b_C_commonDivisor 0 = .ok (.iconst 0, 1) := by decide +kernel
theorem d_C_commonDivisor_1 : decode b_C_commonDivisor 1 = .ok (.istore 4, 2) := by decide +kernel
theorem d_C_commonDivisor_3 : decode b_C_commonDivisor 3 = .ok (.iload 4, 2) := by decide +kernel
theorem d_C_commonDivisor_5 : decode b_C_commonDivisor 5 = .ok (.bipush 100, 2) := by decide +kernel
theorem d_C_commonDivisor_7 : decode b_C_commonDivisor 7 = .ok (.if_icmp .ge 25, 3) := by decide +kernel
theorem d_C_commonDivisor_10 : decode b_C_commonDivisor 10 = .ok (.lload_n 2, 1) := by decide +kernel
theorem d_C_commonDivisor_11 : decode b_C_commonDivisor 11 = .ok (.lconst 0, 1) := by decide +kernel
theorem d_C_commonDivisor_12 : decode b_C_commonDivisor 12 = .ok (.lcmp, 1) := by decide +kernel
theorem d_C_commonDivisor_13 : decode b_C_commonDivisor 13 = .ok (.ifCond .le 19, 3) := by decide +kernel
theorem d_C_commonDivisor_16 : decode b_C_commonDivisor 16 = .ok (.lload_n 0, 1) := by decide +kernel
theorem d_C_commonDivisor_17 : decode b_C_commonDivisor 17 = .ok (.lload_n 2, 1) := by decide +kernel
theorem d_C_commonDivisor_18 : decode b_C_commonDivisor 18 = .ok (.lrem, 1) := by decide +kernel
theorem d_C_commonDivisor_19 : decode b_C_commonDivisor 19 = .ok (.lstore 5, 2) := by decide +kernel
theorem d_C_commonDivisor_21 : decode b_C_commonDivisor 21 = .ok (.lload_n 2, 1) := by decide +kernel
theorem d_C_commonDivisor_22 : decode b_C_commonDivisor 22 = .ok (.lstore_n 0, 1) := by decide +kernel
theorem d_C_commonDivisor_23 : decode b_C_commonDivisor 23 = .ok (.lload 5, 2) := by decide +kernel
theorem d_C_commonDivisor_25 : decode b_C_commonDivisor 25 = .ok (.lstore_n 2, 1) := by decide +kernel
theorem d_C_commonDivisor_26 : decode b_C_commonDivisor 26 = .ok (.iinc 4 1, 3) := by decide +kernel
theorem d_C_commonDivisor_29 : decode b_C_commonDivisor 29 = .ok (.goto (-26), 3) := by decide +kernel
theorem d_C_commonDivisor_32 : decode b_C_commonDivisor 32 = .ok (.lload_n 0, 1) := by decide +kernel
theorem d_C_commonDivisor_33 : decode b_C_commonDivisor 33 = .ok (.lreturn, 1) := by decide +kernel
theorem d_C_copy_0 : decode b_C_copy 0 = .ok (.aload_n 0, 1) := by decide +kernel
theorem d_C_copy_1 : decode b_C_copy 1 = .ok (.iload_n 1, 1) := by decide +kernel
theorem d_C_copy_2 : decode b_C_copy 2 = .ok (.invokevirtual 94, 3) := by decide +kernel
theorem d_C_copy_5 : decode b_C_copy 5 = .ok (.aload_n 0, 1) := by decide +kernel
theorem d_C_copy_6 : decode b_C_copy 6 = .ok (.iload_n 2, 1) := by decide +kernel
theorem d_C_copy_7 : decode b_C_copy 7 = .ok (.invokevirtual 94, 3) := by decide +kernel
theorem d_C_copy_10 : decode b_C_copy 10 = .ok (.invokevirtual 171, 3) := by decide +kernel
theorem d_C_copy_13 : decode b_C_copy 13 = .ok (.ireturn, 1) := by decide +kernel
theorem d_C_cut_0 : decode b_C_cut 0 = .ok (.aload_n 0, 1) := by decide +kernel
theorem d_C_cut_1 : decode b_C_cut 1 = .ok (.iload_n 1, 1) := by decide +kernel
theorem d_C_cut_2 : decode b_C_cut 2 = .ok (.iload_n 2, 1) := by decide +kernel
theorem d_C_cut_3 : decode b_C_cut 3 = .ok (.invokevirtual 117, 3) := by decide +kernel
theorem d_C_cut_6 : decode b_C_cut 6 = .ok (.astore 6, 2) := by decide +kernel
theorem d_C_cut_8 : decode b_C_cut 8 = .ok (.iload_n 3, 1) := by decide +kernel
theorem d_C_cut_9 : decode b_C_cut 9 = .ok (.iload 4, 2) := by decide +kernel
theorem d_C_cut_11 : decode b_C_cut 11 = .ok (.invokestatic 133, 3) := by decide +kernel
theorem d_C_cut_14 : decode b_C_cut 14 = .ok (.iload 5, 2) := by decide +kernel
theorem d_C_cut_16 : decode b_C_cut 16 = .ok (.iconst 1, 1) := by decide +kernel
theorem d_C_cut_17 : decode b_C_cut 17 = .ok (.invokestatic 140, 3) := by decide +kernel
theorem d_C_cut_20 : decode b_C_cut 20 = .ok (.aload_n 0, 1) := by decide +kernel
theorem d_C_cut_21 : decode b_C_cut 21 = .ok (.iload_n 1, 1) := by decide +kernel
theorem d_C_cut_22 : decode b_C_cut 22 = .ok (.invokevirtual 94, 3) := by decide +kernel
theorem d_C_cut_25 : decode b_C_cut 25 = .ok (.getfield 101, 3) := by decide +kernel
theorem d_C_cut_28 : decode b_C_cut 28 = .ok (.istore 7, 2) := by decide +kernel
theorem d_C_cut_30 : decode b_C_cut 30 = .ok (.aload 6, 2) := by decide +kernel
theorem d_C_cut_32 : decode b_C_cut 32 = .ok (.iload 7, 2) := by decide +kernel
theorem d_C_cut_34 : decode b_C_cut 34 = .ok (.iload 4, 2) := by decide +kernel
theorem d_C_cut_36 : decode b_C_cut 36 = .ok (.iload 7, 2) := by decide +kernel
theorem d_C_cut_38 : decode b_C_cut 38 = .ok (.i2l, 1) := by decide +kernel
theorem d_C_cut_39 : decode b_C_cut 39 = .ok (.iload 5, 2) := by decide +kernel
theorem d_C_cut_41 : decode b_C_cut 41 = .ok (.i2l, 1) := by decide +kernel
theorem d_C_cut_42 : decode b_C_cut 42 = .ok (.lconst 1, 1) := by decide +kernel
theorem d_C_cut_43 : decode b_C_cut 43 = .ok (.lsub, 1) := by decide +kernel
theorem d_C_cut_44 : decode b_C_cut 44 = .ok (.iload_n 3, 1) := by decide +kernel
theorem d_C_cut_45 : decode b_C_cut 45 = .ok (.i2l, 1) := by decide +kernel
theorem d_C_cut_46 : decode b_C_cut 46 = .ok (.lmul, 1) := by decide +kernel
theorem d_C_cut_47 : decode b_C_cut 47 = .ok (.lsub, 1) := by decide +kernel
theorem d_C_cut_48 : decode b_C_cut 48 = .ok (.invokevirtual 143, 3) := by decide +kernel
theorem d_C_cut_51 : decode b_C_cut 51 = .ok (.ireturn, 1) := by decide +kernel
theorem d_C_flute_0 : decode b_C_flute 0 = .ok (.iload_n 3, 1) := by decide +kernel
theorem d_C_flute_1 : decode b_C_flute 1 = .ok (.invokestatic 195, 3) := by decide +kernel
theorem d_C_flute_4 : decode b_C_flute 4 = .ok (.iload_n 1, 1) := by decide +kernel
theorem d_C_flute_5 : decode b_C_flute 5 = .ok (.iconst 1, 1) := by decide +kernel
theorem d_C_flute_6 : decode b_C_flute 6 = .ok (.sipush 1000, 3) := by decide +kernel
theorem d_C_flute_9 : decode b_C_flute 9 = .ok (.invokestatic 47, 3) := by decide +kernel
theorem d_C_flute_12 : decode b_C_flute 12 = .ok (.iload_n 2, 1) := by decide +kernel
theorem d_C_flute_13 : decode b_C_flute 13 = .ok (.iconst 0, 1) := by decide +kernel
theorem d_C_flute_14 : decode b_C_flute 14 = .ok (.iload_n 1, 1) := by decide +kernel
theorem d_C_flute_15 : decode b_C_flute 15 = .ok (.iconst 1, 1) := by decide +kernel
theorem d_C_flute_16 : decode b_C_flute 16 = .ok (.isub, 1) := by decide +kernel
theorem d_C_flute_17 : decode b_C_flute 17 = .ok (.invokestatic 47, 3) := by decide +kernel
theorem d_C_flute_20 : decode b_C_flute 20 = .ok (.iload_n 2, 1) := by decide +kernel
theorem d_C_flute_21 : decode b_C_flute 21 = .ok (.i2l, 1) := by decide +kernel
theorem d_C_flute_22 : decode b_C_flute 22 = .ok (.ldc2_w 216, 3) := by decide +kernel
theorem d_C_flute_25 : decode b_C_flute 25 = .ok (.lmul, 1) := by decide +kernel
theorem d_C_flute_26 : decode b_C_flute 26 = .ok (.iload_n 1, 1) := by decide +kernel
theorem d_C_flute_27 : decode b_C_flute 27 = .ok (.i2l, 1) := by decide +kernel
theorem d_C_flute_28 : decode b_C_flute 28 = .ok (.iload_n 3, 1) := by decide +kernel
theorem d_C_flute_29 : decode b_C_flute 29 = .ok (.invokestatic 206, 3) := by decide +kernel
theorem d_C_flute_32 : decode b_C_flute 32 = .ok (.lreturn, 1) := by decide +kernel
theorem d_C_fractionPart_0 : decode b_C_fractionPart 0 = .ok (.lload_n 2, 1) := by decide +kernel
theorem d_C_fractionPart_1 : decode b_C_fractionPart 1 = .ok (.lload_n 0, 1) := by decide +kernel
theorem d_C_fractionPart_2 : decode b_C_fractionPart 2 = .ok (.invokestatic 272, 3) := by decide +kernel
theorem d_C_fractionPart_5 : decode b_C_fractionPart 5 = .ok (.invokestatic 276, 3) := by decide +kernel
theorem d_C_fractionPart_8 : decode b_C_fractionPart 8 = .ok (.lstore 5, 2) := by decide +kernel
theorem d_C_fractionPart_10 : decode b_C_fractionPart 10 = .ok (.iload 4, 2) := by decide +kernel
theorem d_C_fractionPart_12 : decode b_C_fractionPart 12 = .ok (.ifCond .ne 7, 3) := by decide +kernel
theorem d_C_fractionPart_15 : decode b_C_fractionPart 15 = .ok (.lload_n 0, 1) := by decide +kernel
theorem d_C_fractionPart_16 : decode b_C_fractionPart 16 = .ok (.goto 4, 3) := by decide +kernel
theorem d_C_fractionPart_19 : decode b_C_fractionPart 19 = .ok (.lload_n 2, 1) := by decide +kernel
theorem d_C_fractionPart_20 : decode b_C_fractionPart 20 = .ok (.lload 5, 2) := by decide +kernel
theorem d_C_fractionPart_22 : decode b_C_fractionPart 22 = .ok (.ldiv, 1) := by decide +kernel
theorem d_C_fractionPart_23 : decode b_C_fractionPart 23 = .ok (.lreturn, 1) := by decide +kernel
theorem d_C_gap_0 : decode b_C_gap 0 = .ok (.aload_n 0, 1) := by decide +kernel
theorem d_C_gap_1 : decode b_C_gap 1 = .ok (.iload_n 1, 1) := by decide +kernel
theorem d_C_gap_2 : decode b_C_gap 2 = .ok (.invokevirtual 181, 3) := by decide +kernel
theorem d_C_gap_5 : decode b_C_gap 5 = .ok (.astore_n 3, 1) := by decide +kernel
theorem d_C_gap_6 : decode b_C_gap 6 = .ok (.iload_n 2, 1) := by decide +kernel
theorem d_C_gap_7 : decode b_C_gap 7 = .ok (.invokestatic 195, 3) := by decide +kernel
theorem d_C_gap_10 : decode b_C_gap 10 = .ok (.aload_n 3, 1) := by decide +kernel
theorem d_C_gap_11 : decode b_C_gap 11 = .ok (.invokevirtual 210, 3) := by decide +kernel
theorem d_C_gap_14 : decode b_C_gap 14 = .ok (.ldc2_w 214, 3) := by decide +kernel
theorem d_C_gap_17 : decode b_C_gap 17 = .ok (.iload_n 2, 1) := by decide +kernel
theorem d_C_gap_18 : decode b_C_gap 18 = .ok (.invokestatic 206, 3) := by decide +kernel
theorem d_C_gap_21 : decode b_C_gap 21 = .ok (.lreturn, 1) := by decide +kernel
theorem d_C_hollow_0 : decode b_C_hollow 0 = .ok (.aload_n 0, 1) := by decide +kernel
theorem d_C_hollow_1 : decode b_C_hollow 1 = .ok (.iload_n 1, 1) := by decide +kernel
theorem d_C_hollow_2 : decode b_C_hollow 2 = .ok (.invokevirtual 94, 3) := by decide +kernel
theorem d_C_hollow_5 : decode b_C_hollow 5 = .ok (.astore 4, 2) := by decide +kernel
theorem d_C_hollow_7 : decode b_C_hollow 7 = .ok (.iload_n 2, 1) := by decide +kernel
theorem d_C_hollow_8 : decode b_C_hollow 8 = .ok (.iconst 1, 1) := by decide +kernel
theorem d_C_hollow_9 : decode b_C_hollow 9 = .ok (.bipush 100, 2) := by decide +kernel
theorem d_C_hollow_11 : decode b_C_hollow 11 = .ok (.invokestatic 47, 3) := by decide +kernel
theorem d_C_hollow_14 : decode b_C_hollow 14 = .ok (.iload_n 3, 1) := by decide +kernel
theorem d_C_hollow_15 : decode b_C_hollow 15 = .ok (.iconst 0, 1) := by decide +kernel
theorem d_C_hollow_16 : decode b_C_hollow 16 = .ok (.bipush 100, 2) := by decide +kernel
theorem d_C_hollow_18 : decode b_C_hollow 18 = .ok (.invokestatic 47, 3) := by decide +kernel
theorem d_C_hollow_21 : decode b_C_hollow 21 = .ok (.aload 4, 2) := by decide +kernel
theorem d_C_hollow_23 : decode b_C_hollow 23 = .ok (.iload_n 2, 1) := by decide +kernel
theorem d_C_hollow_24 : decode b_C_hollow 24 = .ok (.iload_n 3, 1) := by decide +kernel
theorem d_C_hollow_25 : decode b_C_hollow 25 = .ok (.iadd, 1) := by decide +kernel
theorem d_C_hollow_26 : decode b_C_hollow 26 = .ok (.invokevirtual 167, 3) := by decide +kernel
theorem d_C_hollow_29 : decode b_C_hollow 29 = .ok (.ireturn, 1) := by decide +kernel
theorem d_C_init_0 : decode b_C_init 0 = .ok (.aload_n 0, 1) := by decide +kernel
theorem d_C_init_1 : decode b_C_init 1 = .ok (.invokespecial 1, 3) := by decide +kernel
theorem d_C_init_4 : decode b_C_init 4 = .ok (.aload_n 0, 1) := by decide +kernel
theorem d_C_init_5 : decode b_C_init 5 = .ok (.new 7, 3) := by decide +kernel
theorem d_C_init_8 : decode b_C_init 8 = .ok (.dup, 1) := by decide +kernel
theorem d_C_init_9 : decode b_C_init 9 = .ok (.invokespecial 9, 3) := by decide +kernel
theorem d_C_init_12 : decode b_C_init 12 = .ok (.putfield 10, 3) := by decide +kernel
theorem d_C_init_15 : decode b_C_init 15 = .ok (.aload_n 0, 1) := by decide +kernel
theorem d_C_init_16 : decode b_C_init 16 = .ok (.bipush 6, 2) := by decide +kernel
theorem d_C_init_18 : decode b_C_init 18 = .ok (.anewarray 16, 3) := by decide +kernel
theorem d_C_init_21 : decode b_C_init 21 = .ok (.putfield 18, 3) := by decide +kernel
theorem d_C_init_24 : decode b_C_init 24 = .ok (.aload_n 0, 1) := by decide +kernel
theorem d_C_init_25 : decode b_C_init 25 = .ok (.bipush 6, 2) := by decide +kernel
theorem d_C_init_27 : decode b_C_init 27 = .ok (.anewarray 22, 3) := by decide +kernel
theorem d_C_init_30 : decode b_C_init 30 = .ok (.putfield 24, 3) := by decide +kernel
theorem d_C_init_33 : decode b_C_init 33 = .ok (.aload_n 0, 1) := by decide +kernel
theorem d_C_init_34 : decode b_C_init 34 = .ok (.bipush 36, 2) := by decide +kernel
theorem d_C_init_36 : decode b_C_init 36 = .ok (.anewarray 28, 3) := by decide +kernel
theorem d_C_init_39 : decode b_C_init 39 = .ok (.putfield 30, 3) := by decide +kernel
theorem d_C_init_42 : decode b_C_init 42 = .ok (.aload_n 0, 1) := by decide +kernel
theorem d_C_init_43 : decode b_C_init 43 = .ok (.bipush 6, 2) := by decide +kernel
theorem d_C_init_45 : decode b_C_init 45 = .ok (.anewarray 34, 3) := by decide +kernel
theorem d_C_init_48 : decode b_C_init 48 = .ok (.putfield 36, 3) := by decide +kernel
theorem d_C_init_51 : decode b_C_init 51 = .ok (.aload_n 0, 1) := by decide +kernel
theorem d_C_init_52 : decode b_C_init 52 = .ok (.bipush 8, 2) := by decide +kernel
theorem d_C_init_54 : decode b_C_init 54 = .ok (.newarray .int, 2) := by decide +kernel
theorem d_C_init_56 : decode b_C_init 56 = .ok (.putfield 40, 3) := by decide +kernel
theorem d_C_init_59 : decode b_C_init 59 = .ok (.aload_n 0, 1) := by decide +kernel
theorem d_C_init_60 : decode b_C_init 60 = .ok (.bipush 8, 2) := by decide +kernel
theorem d_C_init_62 : decode b_C_init 62 = .ok (.newarray .int, 2) := by decide +kernel
theorem d_C_init_64 : decode b_C_init 64 = .ok (.putfield 44, 3) := by decide +kernel
theorem d_C_init_67 : decode b_C_init 67 = .ok (.return_, 1) := by decide +kernel
theorem d_C_left_0 : decode b_C_left 0 = .ok (.aload_n 0, 1) := by decide +kernel
theorem d_C_left_1 : decode b_C_left 1 = .ok (.iload_n 1, 1) := by decide +kernel
theorem d_C_left_2 : decode b_C_left 2 = .ok (.iload_n 2, 1) := by decide +kernel
theorem d_C_left_3 : decode b_C_left 3 = .ok (.invokevirtual 117, 3) := by decide +kernel
theorem d_C_left_6 : decode b_C_left 6 = .ok (.aload_n 0, 1) := by decide +kernel
theorem d_C_left_7 : decode b_C_left 7 = .ok (.iload_n 1, 1) := by decide +kernel
theorem d_C_left_8 : decode b_C_left 8 = .ok (.invokevirtual 94, 3) := by decide +kernel
theorem d_C_left_11 : decode b_C_left 11 = .ok (.getfield 126, 3) := by decide +kernel
theorem d_C_left_14 : decode b_C_left 14 = .ok (.invokevirtual 129, 3) := by decide +kernel
theorem d_C_left_17 : decode b_C_left 17 = .ok (.ireturn, 1) := by decide +kernel
theorem d_C_line_0 : decode b_C_line 0 = .ok (.iload_n 1, 1) := by decide +kernel
theorem d_C_line_1 : decode b_C_line 1 = .ok (.iload_n 2, 1) := by decide +kernel
theorem d_C_line_2 : decode b_C_line 2 = .ok (.invokestatic 55, 3) := by decide +kernel
theorem d_C_line_5 : decode b_C_line 5 = .ok (.aload_n 0, 1) := by decide +kernel
theorem d_C_line_6 : decode b_C_line 6 = .ok (.iload_n 1, 1) := by decide +kernel
theorem d_C_line_7 : decode b_C_line 7 = .ok (.invokevirtual 59, 3) := by decide +kernel
theorem d_C_line_10 : decode b_C_line 10 = .ok (.aload_n 0, 1) := by decide +kernel
theorem d_C_line_11 : decode b_C_line 11 = .ok (.getfield 10, 3) := by decide +kernel
theorem d_C_line_14 : decode b_C_line 14 = .ok (.iload_n 1, 1) := by decide +kernel
theorem d_C_line_15 : decode b_C_line 15 = .ok (.iload_n 2, 1) := by decide +kernel
theorem d_C_line_16 : decode b_C_line 16 = .ok (.invokevirtual 62, 3) := by decide +kernel
theorem d_C_line_19 : decode b_C_line 19 = .ok (.aload_n 0, 1) := by decide +kernel
theorem d_C_line_20 : decode b_C_line 20 = .ok (.getfield 10, 3) := by decide +kernel
theorem d_C_line_23 : decode b_C_line 23 = .ok (.getfield 65, 3) := by decide +kernel
theorem d_C_line_26 : decode b_C_line 26 = .ok (.ireturn, 1) := by decide +kernel
theorem d_C_mitre_0 : decode b_C_mitre 0 = .ok (.aload_n 0, 1) := by decide +kernel
theorem d_C_mitre_1 : decode b_C_mitre 1 = .ok (.iload_n 1, 1) := by decide +kernel
theorem d_C_mitre_2 : decode b_C_mitre 2 = .ok (.invokevirtual 181, 3) := by decide +kernel
theorem d_C_mitre_5 : decode b_C_mitre 5 = .ok (.astore 4, 2) := by decide +kernel
theorem d_C_mitre_7 : decode b_C_mitre 7 = .ok (.iload_n 2, 1) := by decide +kernel
theorem d_C_mitre_8 : decode b_C_mitre 8 = .ok (.ifCond .lt 12, 3) := by decide +kernel
theorem d_C_mitre_11 : decode b_C_mitre 11 = .ok (.iload_n 2, 1) := by decide +kernel
theorem d_C_mitre_12 : decode b_C_mitre 12 = .ok (.aload 4, 2) := by decide +kernel
theorem d_C_mitre_14 : decode b_C_mitre 14 = .ok (.getfield 185, 3) := by decide +kernel
theorem d_C_mitre_17 : decode b_C_mitre 17 = .ok (.if_icmp .lt 13, 3) := by decide +kernel
theorem d_C_mitre_20 : decode b_C_mitre 20 = .ok (.new 105, 3) := by decide +kernel
theorem d_C_mitre_23 : decode b_C_mitre 23 = .ok (.dup, 1) := by decide +kernel
theorem d_C_mitre_24 : decode b_C_mitre 24 = .ok (.ldc 193, 2) := by decide +kernel
theorem d_C_mitre_26 : decode b_C_mitre 26 = .ok (.invokespecial 109, 3) := by decide +kernel
theorem d_C_mitre_29 : decode b_C_mitre 29 = .ok (.athrow, 1) := by decide +kernel
theorem d_C_mitre_30 : decode b_C_mitre 30 = .ok (.iload_n 3, 1) := by decide +kernel
theorem d_C_mitre_31 : decode b_C_mitre 31 = .ok (.invokestatic 195, 3) := by decide +kernel
theorem d_C_mitre_34 : decode b_C_mitre 34 = .ok (.aload 4, 2) := by decide +kernel
theorem d_C_mitre_36 : decode b_C_mitre 36 = .ok (.getfield 198, 3) := by decide +kernel
theorem d_C_mitre_39 : decode b_C_mitre 39 = .ok (.iload_n 2, 1) := by decide +kernel
theorem d_C_mitre_40 : decode b_C_mitre 40 = .ok (.iaload, 1) := by decide +kernel
theorem d_C_mitre_41 : decode b_C_mitre 41 = .ok (.i2l, 1) := by decide +kernel
theorem d_C_mitre_42 : decode b_C_mitre 42 = .ok (.ldc2_w 201, 3) := by decide +kernel
theorem d_C_mitre_45 : decode b_C_mitre 45 = .ok (.aload 4, 2) := by decide +kernel
theorem d_C_mitre_47 : decode b_C_mitre 47 = .ok (.getfield 203, 3) := by decide +kernel
theorem d_C_mitre_50 : decode b_C_mitre 50 = .ok (.iload_n 2, 1) := by decide +kernel
theorem d_C_mitre_51 : decode b_C_mitre 51 = .ok (.iaload, 1) := by decide +kernel
theorem d_C_mitre_52 : decode b_C_mitre 52 = .ok (.i2l, 1) := by decide +kernel
theorem d_C_mitre_53 : decode b_C_mitre 53 = .ok (.lmul, 1) := by decide +kernel
theorem d_C_mitre_54 : decode b_C_mitre 54 = .ok (.iload_n 3, 1) := by decide +kernel
theorem d_C_mitre_55 : decode b_C_mitre 55 = .ok (.invokestatic 206, 3) := by decide +kernel
theorem d_C_mitre_58 : decode b_C_mitre 58 = .ok (.lreturn, 1) := by decide +kernel
theorem d_C_noseAt_0 : decode b_C_noseAt 0 = .ok (.iload_n 1, 1) := by decide +kernel
theorem d_C_noseAt_1 : decode b_C_noseAt 1 = .ok (.ifCond .lt 18, 3) := by decide +kernel
theorem d_C_noseAt_4 : decode b_C_noseAt 4 = .ok (.iload_n 1, 1) := by decide +kernel
theorem d_C_noseAt_5 : decode b_C_noseAt 5 = .ok (.bipush 6, 2) := by decide +kernel
theorem d_C_noseAt_7 : decode b_C_noseAt 7 = .ok (.if_icmp .ge 12, 3) := by decide +kernel
theorem d_C_noseAt_10 : decode b_C_noseAt 10 = .ok (.aload_n 0, 1) := by decide +kernel
theorem d_C_noseAt_11 : decode b_C_noseAt 11 = .ok (.getfield 24, 3) := by decide +kernel
theorem d_C_noseAt_14 : decode b_C_noseAt 14 = .ok (.iload_n 1, 1) := by decide +kernel
theorem d_C_noseAt_15 : decode b_C_noseAt 15 = .ok (.aaload, 1) := by decide +kernel
theorem d_C_noseAt_16 : decode b_C_noseAt 16 = .ok (.goto 4, 3) := by decide +kernel
theorem d_C_noseAt_19 : decode b_C_noseAt 19 = .ok (.aconst_null, 1) := by decide +kernel
theorem d_C_noseAt_20 : decode b_C_noseAt 20 = .ok (.astore_n 2, 1) := by decide +kernel
theorem d_C_noseAt_21 : decode b_C_noseAt 21 = .ok (.aload_n 2, 1) := by decide +kernel
theorem d_C_noseAt_22 : decode b_C_noseAt 22 = .ok (.ifnonnull 13, 3) := by decide +kernel
theorem d_C_noseAt_25 : decode b_C_noseAt 25 = .ok (.new 105, 3) := by decide +kernel
theorem d_C_noseAt_28 : decode b_C_noseAt 28 = .ok (.dup, 1) := by decide +kernel
theorem d_C_noseAt_29 : decode b_C_noseAt 29 = .ok (.ldc 241, 2) := by decide +kernel
theorem d_C_noseAt_31 : decode b_C_noseAt 31 = .ok (.invokespecial 109, 3) := by decide +kernel
theorem d_C_noseAt_34 : decode b_C_noseAt 34 = .ok (.athrow, 1) := by decide +kernel
theorem d_C_noseAt_35 : decode b_C_noseAt 35 = .ok (.aload_n 2, 1) := by decide +kernel
theorem d_C_noseAt_36 : decode b_C_noseAt 36 = .ok (.areturn, 1) := by decide +kernel
theorem d_C_passes_0 : decode b_C_passes 0 = .ok (.aload_n 0, 1) := by decide +kernel
theorem d_C_passes_1 : decode b_C_passes 1 = .ok (.iload_n 1, 1) := by decide +kernel
theorem d_C_passes_2 : decode b_C_passes 2 = .ok (.iload_n 2, 1) := by decide +kernel
theorem d_C_passes_3 : decode b_C_passes 3 = .ok (.invokevirtual 117, 3) := by decide +kernel
theorem d_C_passes_6 : decode b_C_passes 6 = .ok (.astore 5, 2) := by decide +kernel
theorem d_C_passes_8 : decode b_C_passes 8 = .ok (.iload_n 3, 1) := by decide +kernel
theorem d_C_passes_9 : decode b_C_passes 9 = .ok (.iload 4, 2) := by decide +kernel
theorem d_C_passes_11 : decode b_C_passes 11 = .ok (.invokestatic 133, 3) := by decide +kernel
theorem d_C_passes_14 : decode b_C_passes 14 = .ok (.aload 5, 2) := by decide +kernel
theorem d_C_passes_16 : decode b_C_passes 16 = .ok (.aload_n 0, 1) := by decide +kernel
theorem d_C_passes_17 : decode b_C_passes 17 = .ok (.iload_n 1, 1) := by decide +kernel
theorem d_C_passes_18 : decode b_C_passes 18 = .ok (.invokevirtual 94, 3) := by decide +kernel
theorem d_C_passes_21 : decode b_C_passes 21 = .ok (.getfield 101, 3) := by decide +kernel
theorem d_C_passes_24 : decode b_C_passes 24 = .ok (.iload_n 3, 1) := by decide +kernel
theorem d_C_passes_25 : decode b_C_passes 25 = .ok (.iload 4, 2) := by decide +kernel
theorem d_C_passes_27 : decode b_C_passes 27 = .ok (.invokevirtual 136, 3) := by decide +kernel
theorem d_C_passes_30 : decode b_C_passes 30 = .ok (.ireturn, 1) := by decide +kernel
theorem d_C_pieceAt_0 : decode b_C_pieceAt 0 = .ok (.iload_n 1, 1) := by decide +kernel
theorem d_C_pieceAt_1 : decode b_C_pieceAt 1 = .ok (.ifCond .lt 18, 3) := by decide +kernel
theorem d_C_pieceAt_4 : decode b_C_pieceAt 4 = .ok (.iload_n 1, 1) := by decide +kernel
theorem d_C_pieceAt_5 : decode b_C_pieceAt 5 = .ok (.bipush 6, 2) := by decide +kernel
theorem d_C_pieceAt_7 : decode b_C_pieceAt 7 = .ok (.if_icmp .ge 12, 3) := by decide +kernel
theorem d_C_pieceAt_10 : decode b_C_pieceAt 10 = .ok (.aload_n 0, 1) := by decide +kernel
theorem d_C_pieceAt_11 : decode b_C_pieceAt 11 = .ok (.getfield 18, 3) := by decide +kernel
theorem d_C_pieceAt_14 : decode b_C_pieceAt 14 = .ok (.iload_n 1, 1) := by decide +kernel
theorem d_C_pieceAt_15 : decode b_C_pieceAt 15 = .ok (.aaload, 1) := by decide +kernel
theorem d_C_pieceAt_16 : decode b_C_pieceAt 16 = .ok (.goto 4, 3) := by decide +kernel
theorem d_C_pieceAt_19 : decode b_C_pieceAt 19 = .ok (.aconst_null, 1) := by decide +kernel
theorem d_C_pieceAt_20 : decode b_C_pieceAt 20 = .ok (.astore_n 2, 1) := by decide +kernel
theorem d_C_pieceAt_21 : decode b_C_pieceAt 21 = .ok (.aload_n 2, 1) := by decide +kernel
theorem d_C_pieceAt_22 : decode b_C_pieceAt 22 = .ok (.ifnonnull 13, 3) := by decide +kernel
theorem d_C_pieceAt_25 : decode b_C_pieceAt 25 = .ok (.new 105, 3) := by decide +kernel
theorem d_C_pieceAt_28 : decode b_C_pieceAt 28 = .ok (.dup, 1) := by decide +kernel
theorem d_C_pieceAt_29 : decode b_C_pieceAt 29 = .ok (.ldc 239, 2) := by decide +kernel
theorem d_C_pieceAt_31 : decode b_C_pieceAt 31 = .ok (.invokespecial 109, 3) := by decide +kernel
theorem d_C_pieceAt_34 : decode b_C_pieceAt 34 = .ok (.athrow, 1) := by decide +kernel
theorem d_C_pieceAt_35 : decode b_C_pieceAt 35 = .ok (.aload_n 2, 1) := by decide +kernel
theorem d_C_pieceAt_36 : decode b_C_pieceAt 36 = .ok (.areturn, 1) := by decide +kernel
theorem d_C_radius_0 : decode b_C_radius 0 = .ok (.aload_n 0, 1) := by decide +kernel
theorem d_C_radius_1 : decode b_C_radius 1 = .ok (.iload_n 1, 1) := by decide +kernel
theorem d_C_radius_2 : decode b_C_radius 2 = .ok (.iload_n 2, 1) := by decide +kernel
theorem d_C_radius_3 : decode b_C_radius 3 = .ok (.invokevirtual 90, 3) := by decide +kernel
theorem d_C_radius_6 : decode b_C_radius 6 = .ok (.ireturn, 1) := by decide +kernel
theorem d_C_radiusAt_0 : decode b_C_radiusAt 0 = .ok (.aload_n 0, 1) := by decide +kernel
theorem d_C_radiusAt_1 : decode b_C_radiusAt 1 = .ok (.iload_n 1, 1) := by decide +kernel
theorem d_C_radiusAt_2 : decode b_C_radiusAt 2 = .ok (.invokevirtual 94, 3) := by decide +kernel
theorem d_C_radiusAt_5 : decode b_C_radiusAt 5 = .ok (.astore_n 3, 1) := by decide +kernel
theorem d_C_radiusAt_6 : decode b_C_radiusAt 6 = .ok (.iload_n 2, 1) := by decide +kernel
theorem d_C_radiusAt_7 : decode b_C_radiusAt 7 = .ok (.ifCond .lt 11, 3) := by decide +kernel
theorem d_C_radiusAt_10 : decode b_C_radiusAt 10 = .ok (.iload_n 2, 1) := by decide +kernel
theorem d_C_radiusAt_11 : decode b_C_radiusAt 11 = .ok (.aload_n 3, 1) := by decide +kernel
theorem d_C_radiusAt_12 : decode b_C_radiusAt 12 = .ok (.getfield 98, 3) := by decide +kernel
theorem d_C_radiusAt_15 : decode b_C_radiusAt 15 = .ok (.if_icmp .le 13, 3) := by decide +kernel
theorem d_C_radiusAt_18 : decode b_C_radiusAt 18 = .ok (.new 105, 3) := by decide +kernel
theorem d_C_radiusAt_21 : decode b_C_radiusAt 21 = .ok (.dup, 1) := by decide +kernel
theorem d_C_radiusAt_22 : decode b_C_radiusAt 22 = .ok (.ldc 124, 2) := by decide +kernel
theorem d_C_radiusAt_24 : decode b_C_radiusAt 24 = .ok (.invokespecial 109, 3) := by decide +kernel
theorem d_C_radiusAt_27 : decode b_C_radiusAt 27 = .ok (.athrow, 1) := by decide +kernel
theorem d_C_radiusAt_28 : decode b_C_radiusAt 28 = .ok (.aload_n 3, 1) := by decide +kernel
theorem d_C_radiusAt_29 : decode b_C_radiusAt 29 = .ok (.getfield 126, 3) := by decide +kernel
theorem d_C_radiusAt_32 : decode b_C_radiusAt 32 = .ok (.iload_n 2, 1) := by decide +kernel
theorem d_C_radiusAt_33 : decode b_C_radiusAt 33 = .ok (.iaload, 1) := by decide +kernel
theorem d_C_radiusAt_34 : decode b_C_radiusAt 34 = .ok (.ireturn, 1) := by decide +kernel
theorem d_C_reachOf_0 : decode b_C_reachOf 0 = .ok (.aload_n 0, 1) := by decide +kernel
theorem d_C_reachOf_1 : decode b_C_reachOf 1 = .ok (.iload_n 1, 1) := by decide +kernel
theorem d_C_reachOf_2 : decode b_C_reachOf 2 = .ok (.invokevirtual 94, 3) := by decide +kernel
theorem d_C_reachOf_5 : decode b_C_reachOf 5 = .ok (.astore_n 3, 1) := by decide +kernel
theorem d_C_reachOf_6 : decode b_C_reachOf 6 = .ok (.aload_n 0, 1) := by decide +kernel
theorem d_C_reachOf_7 : decode b_C_reachOf 7 = .ok (.iload_n 2, 1) := by decide +kernel
theorem d_C_reachOf_8 : decode b_C_reachOf 8 = .ok (.invokevirtual 245, 3) := by decide +kernel
theorem d_C_reachOf_11 : decode b_C_reachOf 11 = .ok (.astore 4, 2) := by decide +kernel
theorem d_C_reachOf_13 : decode b_C_reachOf 13 = .ok (.iload_n 1, 1) := by decide +kernel
theorem d_C_reachOf_14 : decode b_C_reachOf 14 = .ok (.bipush 6, 2) := by decide +kernel
theorem d_C_reachOf_16 : decode b_C_reachOf 16 = .ok (.imul, 1) := by decide +kernel
theorem d_C_reachOf_17 : decode b_C_reachOf 17 = .ok (.iload_n 2, 1) := by decide +kernel
theorem d_C_reachOf_18 : decode b_C_reachOf 18 = .ok (.iadd, 1) := by decide +kernel
theorem d_C_reachOf_19 : decode b_C_reachOf 19 = .ok (.istore 5, 2) := by decide +kernel
theorem d_C_reachOf_21 : decode b_C_reachOf 21 = .ok (.aload_n 0, 1) := by decide +kernel
theorem d_C_reachOf_22 : decode b_C_reachOf 22 = .ok (.getfield 30, 3) := by decide +kernel
theorem d_C_reachOf_25 : decode b_C_reachOf 25 = .ok (.iload 5, 2) := by decide +kernel
theorem d_C_reachOf_27 : decode b_C_reachOf 27 = .ok (.aaload, 1) := by decide +kernel
theorem d_C_reachOf_28 : decode b_C_reachOf 28 = .ok (.astore 6, 2) := by decide +kernel
theorem d_C_reachOf_30 : decode b_C_reachOf 30 = .ok (.aload 6, 2) := by decide +kernel
theorem d_C_reachOf_32 : decode b_C_reachOf 32 = .ok (.ifnonnull 30, 3) := by decide +kernel
theorem d_C_reachOf_35 : decode b_C_reachOf 35 = .ok (.new 28, 3) := by decide +kernel
theorem d_C_reachOf_38 : decode b_C_reachOf 38 = .ok (.dup, 1) := by decide +kernel
theorem d_C_reachOf_39 : decode b_C_reachOf 39 = .ok (.aload_n 3, 1) := by decide +kernel
theorem d_C_reachOf_40 : decode b_C_reachOf 40 = .ok (.getfield 126, 3) := by decide +kernel
theorem d_C_reachOf_43 : decode b_C_reachOf 43 = .ok (.aload 4, 2) := by decide +kernel
theorem d_C_reachOf_45 : decode b_C_reachOf 45 = .ok (.getfield 249, 3) := by decide +kernel
theorem d_C_reachOf_48 : decode b_C_reachOf 48 = .ok (.invokespecial 252, 3) := by decide +kernel
theorem d_C_reachOf_51 : decode b_C_reachOf 51 = .ok (.astore 6, 2) := by decide +kernel
theorem d_C_reachOf_53 : decode b_C_reachOf 53 = .ok (.aload_n 0, 1) := by decide +kernel
theorem d_C_reachOf_54 : decode b_C_reachOf 54 = .ok (.getfield 30, 3) := by decide +kernel
theorem d_C_reachOf_57 : decode b_C_reachOf 57 = .ok (.iload 5, 2) := by decide +kernel
theorem d_C_reachOf_59 : decode b_C_reachOf 59 = .ok (.aload 6, 2) := by decide +kernel
theorem d_C_reachOf_61 : decode b_C_reachOf 61 = .ok (.aastore, 1) := by decide +kernel
theorem d_C_reachOf_62 : decode b_C_reachOf 62 = .ok (.aload 6, 2) := by decide +kernel
theorem d_C_reachOf_64 : decode b_C_reachOf 64 = .ok (.areturn, 1) := by decide +kernel
theorem d_C_reached_0 : decode b_C_reached 0 = .ok (.aload_n 0, 1) := by decide +kernel
theorem d_C_reached_1 : decode b_C_reached 1 = .ok (.iload_n 1, 1) := by decide +kernel
theorem d_C_reached_2 : decode b_C_reached 2 = .ok (.iload_n 2, 1) := by decide +kernel
theorem d_C_reached_3 : decode b_C_reached 3 = .ok (.invokevirtual 117, 3) := by decide +kernel
theorem d_C_reached_6 : decode b_C_reached 6 = .ok (.astore 4, 2) := by decide +kernel
theorem d_C_reached_8 : decode b_C_reached 8 = .ok (.iload_n 3, 1) := by decide +kernel
theorem d_C_reached_9 : decode b_C_reached 9 = .ok (.ifCond .lt 13, 3) := by decide +kernel
theorem d_C_reached_12 : decode b_C_reached 12 = .ok (.iload_n 3, 1) := by decide +kernel
theorem d_C_reached_13 : decode b_C_reached 13 = .ok (.aload 4, 2) := by decide +kernel
theorem d_C_reached_15 : decode b_C_reached 15 = .ok (.getfield 121, 3) := by decide +kernel
theorem d_C_reached_18 : decode b_C_reached 18 = .ok (.arraylength, 1) := by decide +kernel
theorem d_C_reached_19 : decode b_C_reached 19 = .ok (.if_icmp .lt 13, 3) := by decide +kernel
theorem d_C_reached_22 : decode b_C_reached 22 = .ok (.new 105, 3) := by decide +kernel
theorem d_C_reached_25 : decode b_C_reached 25 = .ok (.dup, 1) := by decide +kernel
theorem d_C_reached_26 : decode b_C_reached 26 = .ok (.ldc 124, 2) := by decide +kernel
theorem d_C_reached_28 : decode b_C_reached 28 = .ok (.invokespecial 109, 3) := by decide +kernel
theorem d_C_reached_31 : decode b_C_reached 31 = .ok (.athrow, 1) := by decide +kernel
theorem d_C_reached_32 : decode b_C_reached 32 = .ok (.aload 4, 2) := by decide +kernel
theorem d_C_reached_34 : decode b_C_reached 34 = .ok (.getfield 121, 3) := by decide +kernel
theorem d_C_reached_37 : decode b_C_reached 37 = .ok (.iload_n 3, 1) := by decide +kernel
theorem d_C_reached_38 : decode b_C_reached 38 = .ok (.iaload, 1) := by decide +kernel
theorem d_C_reached_39 : decode b_C_reached 39 = .ok (.ireturn, 1) := by decide +kernel
theorem d_C_ring_0 : decode b_C_ring 0 = .ok (.aload_n 0, 1) := by decide +kernel
theorem d_C_ring_1 : decode b_C_ring 1 = .ok (.getfield 175, 3) := by decide +kernel
theorem d_C_ring_4 : decode b_C_ring 4 = .ok (.bipush 6, 2) := by decide +kernel
theorem d_C_ring_6 : decode b_C_ring 6 = .ok (.if_icmp .lt 13, 3) := by decide +kernel
theorem d_C_ring_9 : decode b_C_ring 9 = .ok (.new 80, 3) := by decide +kernel
theorem d_C_ring_12 : decode b_C_ring 12 = .ok (.dup, 1) := by decide +kernel
theorem d_C_ring_13 : decode b_C_ring 13 = .ok (.ldc 178, 2) := by decide +kernel
theorem d_C_ring_15 : decode b_C_ring 15 = .ok (.invokespecial 84, 3) := by decide +kernel
theorem d_C_ring_18 : decode b_C_ring 18 = .ok (.athrow, 1) := by decide +kernel
theorem d_C_ring_19 : decode b_C_ring 19 = .ok (.aload_n 0, 1) := by decide +kernel
theorem d_C_ring_20 : decode b_C_ring 20 = .ok (.getfield 36, 3) := by decide +kernel
theorem d_C_ring_23 : decode b_C_ring 23 = .ok (.aload_n 0, 1) := by decide +kernel
theorem d_C_ring_24 : decode b_C_ring 24 = .ok (.getfield 175, 3) := by decide +kernel
theorem d_C_ring_27 : decode b_C_ring 27 = .ok (.new 34, 3) := by decide +kernel
theorem d_C_ring_30 : decode b_C_ring 30 = .ok (.dup, 1) := by decide +kernel
theorem d_C_ring_31 : decode b_C_ring 31 = .ok (.invokespecial 180, 3) := by decide +kernel
theorem d_C_ring_34 : decode b_C_ring 34 = .ok (.aastore, 1) := by decide +kernel
theorem d_C_ring_35 : decode b_C_ring 35 = .ok (.aload_n 0, 1) := by decide +kernel
theorem d_C_ring_36 : decode b_C_ring 36 = .ok (.dup, 1) := by decide +kernel
theorem d_C_ring_37 : decode b_C_ring 37 = .ok (.getfield 175, 3) := by decide +kernel
theorem d_C_ring_40 : decode b_C_ring 40 = .ok (.iconst 1, 1) := by decide +kernel
theorem d_C_ring_41 : decode b_C_ring 41 = .ok (.iadd, 1) := by decide +kernel
theorem d_C_ring_42 : decode b_C_ring 42 = .ok (.putfield 175, 3) := by decide +kernel
theorem d_C_ring_45 : decode b_C_ring 45 = .ok (.aload_n 0, 1) := by decide +kernel
theorem d_C_ring_46 : decode b_C_ring 46 = .ok (.getfield 175, 3) := by decide +kernel
theorem d_C_ring_49 : decode b_C_ring 49 = .ok (.iconst 1, 1) := by decide +kernel
theorem d_C_ring_50 : decode b_C_ring 50 = .ok (.isub, 1) := by decide +kernel
theorem d_C_ring_51 : decode b_C_ring 51 = .ok (.ireturn, 1) := by decide +kernel
theorem d_C_ringAt_0 : decode b_C_ringAt 0 = .ok (.iload_n 1, 1) := by decide +kernel
theorem d_C_ringAt_1 : decode b_C_ringAt 1 = .ok (.ifCond .lt 18, 3) := by decide +kernel
theorem d_C_ringAt_4 : decode b_C_ringAt 4 = .ok (.iload_n 1, 1) := by decide +kernel
theorem d_C_ringAt_5 : decode b_C_ringAt 5 = .ok (.bipush 6, 2) := by decide +kernel
theorem d_C_ringAt_7 : decode b_C_ringAt 7 = .ok (.if_icmp .ge 12, 3) := by decide +kernel
theorem d_C_ringAt_10 : decode b_C_ringAt 10 = .ok (.aload_n 0, 1) := by decide +kernel
theorem d_C_ringAt_11 : decode b_C_ringAt 11 = .ok (.getfield 36, 3) := by decide +kernel
theorem d_C_ringAt_14 : decode b_C_ringAt 14 = .ok (.iload_n 1, 1) := by decide +kernel
theorem d_C_ringAt_15 : decode b_C_ringAt 15 = .ok (.aaload, 1) := by decide +kernel
theorem d_C_ringAt_16 : decode b_C_ringAt 16 = .ok (.goto 4, 3) := by decide +kernel
theorem d_C_ringAt_19 : decode b_C_ringAt 19 = .ok (.aconst_null, 1) := by decide +kernel
theorem d_C_ringAt_20 : decode b_C_ringAt 20 = .ok (.astore_n 2, 1) := by decide +kernel
theorem d_C_ringAt_21 : decode b_C_ringAt 21 = .ok (.aload_n 2, 1) := by decide +kernel
theorem d_C_ringAt_22 : decode b_C_ringAt 22 = .ok (.ifnonnull 13, 3) := by decide +kernel
theorem d_C_ringAt_25 : decode b_C_ringAt 25 = .ok (.new 105, 3) := by decide +kernel
theorem d_C_ringAt_28 : decode b_C_ringAt 28 = .ok (.dup, 1) := by decide +kernel
theorem d_C_ringAt_29 : decode b_C_ringAt 29 = .ok (.ldc 243, 2) := by decide +kernel
theorem d_C_ringAt_31 : decode b_C_ringAt 31 = .ok (.invokespecial 109, 3) := by decide +kernel
theorem d_C_ringAt_34 : decode b_C_ringAt 34 = .ok (.athrow, 1) := by decide +kernel
theorem d_C_ringAt_35 : decode b_C_ringAt 35 = .ok (.aload_n 2, 1) := by decide +kernel
theorem d_C_ringAt_36 : decode b_C_ringAt 36 = .ok (.areturn, 1) := by decide +kernel
theorem d_C_row_0 : decode b_C_row 0 = .ok (.iload_n 1, 1) := by decide +kernel
theorem d_C_row_1 : decode b_C_row 1 = .ok (.iconst 1, 1) := by decide +kernel
theorem d_C_row_2 : decode b_C_row 2 = .ok (.sipush 500, 3) := by decide +kernel
theorem d_C_row_5 : decode b_C_row 5 = .ok (.invokestatic 47, 3) := by decide +kernel
theorem d_C_row_8 : decode b_C_row 8 = .ok (.iload_n 2, 1) := by decide +kernel
theorem d_C_row_9 : decode b_C_row 9 = .ok (.iconst 1, 1) := by decide +kernel
theorem d_C_row_10 : decode b_C_row 10 = .ok (.sipush 10000, 3) := by decide +kernel
theorem d_C_row_13 : decode b_C_row 13 = .ok (.invokestatic 47, 3) := by decide +kernel
theorem d_C_row_16 : decode b_C_row 16 = .ok (.aload_n 0, 1) := by decide +kernel
theorem d_C_row_17 : decode b_C_row 17 = .ok (.getfield 227, 3) := by decide +kernel
theorem d_C_row_20 : decode b_C_row 20 = .ok (.ifCond .le 28, 3) := by decide +kernel
theorem d_C_row_23 : decode b_C_row 23 = .ok (.iload_n 1, 1) := by decide +kernel
theorem d_C_row_24 : decode b_C_row 24 = .ok (.aload_n 0, 1) := by decide +kernel
theorem d_C_row_25 : decode b_C_row 25 = .ok (.getfield 40, 3) := by decide +kernel
theorem d_C_row_28 : decode b_C_row 28 = .ok (.aload_n 0, 1) := by decide +kernel
theorem d_C_row_29 : decode b_C_row 29 = .ok (.getfield 227, 3) := by decide +kernel
theorem d_C_row_32 : decode b_C_row 32 = .ok (.iconst 1, 1) := by decide +kernel
theorem d_C_row_33 : decode b_C_row 33 = .ok (.isub, 1) := by decide +kernel
theorem d_C_row_34 : decode b_C_row 34 = .ok (.iaload, 1) := by decide +kernel
theorem d_C_row_35 : decode b_C_row 35 = .ok (.if_icmp .gt 13, 3) := by decide +kernel
theorem d_C_row_38 : decode b_C_row 38 = .ok (.new 230, 3) := by decide +kernel
theorem d_C_row_41 : decode b_C_row 41 = .ok (.dup, 1) := by decide +kernel
theorem d_C_row_42 : decode b_C_row 42 = .ok (.ldc 232, 2) := by decide +kernel
theorem d_C_row_44 : decode b_C_row 44 = .ok (.invokespecial 234, 3) := by decide +kernel
theorem d_C_row_47 : decode b_C_row 47 = .ok (.athrow, 1) := by decide +kernel
theorem d_C_row_48 : decode b_C_row 48 = .ok (.aload_n 0, 1) := by decide +kernel
theorem d_C_row_49 : decode b_C_row 49 = .ok (.getfield 227, 3) := by decide +kernel
theorem d_C_row_52 : decode b_C_row 52 = .ok (.bipush 8, 2) := by decide +kernel
theorem d_C_row_54 : decode b_C_row 54 = .ok (.if_icmp .lt 13, 3) := by decide +kernel
theorem d_C_row_57 : decode b_C_row 57 = .ok (.new 80, 3) := by decide +kernel
theorem d_C_row_60 : decode b_C_row 60 = .ok (.dup, 1) := by decide +kernel
theorem d_C_row_61 : decode b_C_row 61 = .ok (.ldc 235, 2) := by decide +kernel
theorem d_C_row_63 : decode b_C_row 63 = .ok (.invokespecial 84, 3) := by decide +kernel
theorem d_C_row_66 : decode b_C_row 66 = .ok (.athrow, 1) := by decide +kernel
theorem d_C_row_67 : decode b_C_row 67 = .ok (.aload_n 0, 1) := by decide +kernel
theorem d_C_row_68 : decode b_C_row 68 = .ok (.getfield 40, 3) := by decide +kernel
theorem d_C_row_71 : decode b_C_row 71 = .ok (.aload_n 0, 1) := by decide +kernel
theorem d_C_row_72 : decode b_C_row 72 = .ok (.getfield 227, 3) := by decide +kernel
theorem d_C_row_75 : decode b_C_row 75 = .ok (.iload_n 1, 1) := by decide +kernel
theorem d_C_row_76 : decode b_C_row 76 = .ok (.iastore, 1) := by decide +kernel
theorem d_C_row_77 : decode b_C_row 77 = .ok (.aload_n 0, 1) := by decide +kernel
theorem d_C_row_78 : decode b_C_row 78 = .ok (.getfield 44, 3) := by decide +kernel
theorem d_C_row_81 : decode b_C_row 81 = .ok (.aload_n 0, 1) := by decide +kernel
theorem d_C_row_82 : decode b_C_row 82 = .ok (.getfield 227, 3) := by decide +kernel
theorem d_C_row_85 : decode b_C_row 85 = .ok (.iload_n 2, 1) := by decide +kernel
theorem d_C_row_86 : decode b_C_row 86 = .ok (.iastore, 1) := by decide +kernel
theorem d_C_row_87 : decode b_C_row 87 = .ok (.aload_n 0, 1) := by decide +kernel
theorem d_C_row_88 : decode b_C_row 88 = .ok (.dup, 1) := by decide +kernel
theorem d_C_row_89 : decode b_C_row 89 = .ok (.getfield 227, 3) := by decide +kernel
theorem d_C_row_92 : decode b_C_row 92 = .ok (.iconst 1, 1) := by decide +kernel
theorem d_C_row_93 : decode b_C_row 93 = .ok (.iadd, 1) := by decide +kernel
theorem d_C_row_94 : decode b_C_row 94 = .ok (.putfield 227, 3) := by decide +kernel
theorem d_C_row_97 : decode b_C_row 97 = .ok (.aload_n 0, 1) := by decide +kernel
theorem d_C_row_98 : decode b_C_row 98 = .ok (.getfield 227, 3) := by decide +kernel
theorem d_C_row_101 : decode b_C_row 101 = .ok (.ireturn, 1) := by decide +kernel
theorem d_C_speed_0 : decode b_C_speed 0 = .ok (.aload_n 0, 1) := by decide +kernel
theorem d_C_speed_1 : decode b_C_speed 1 = .ok (.iload_n 1, 1) := by decide +kernel
theorem d_C_speed_2 : decode b_C_speed 2 = .ok (.iload_n 2, 1) := by decide +kernel
theorem d_C_speed_3 : decode b_C_speed 3 = .ok (.invokevirtual 90, 3) := by decide +kernel
theorem d_C_speed_6 : decode b_C_speed 6 = .ok (.istore_n 3, 1) := by decide +kernel
theorem d_C_speed_7 : decode b_C_speed 7 = .ok (.aload_n 0, 1) := by decide +kernel
theorem d_C_speed_8 : decode b_C_speed 8 = .ok (.getfield 227, 3) := by decide +kernel
theorem d_C_speed_11 : decode b_C_speed 11 = .ok (.ifCond .ne 13, 3) := by decide +kernel
theorem d_C_speed_14 : decode b_C_speed 14 = .ok (.new 80, 3) := by decide +kernel
theorem d_C_speed_17 : decode b_C_speed 17 = .ok (.dup, 1) := by decide +kernel
theorem d_C_speed_18 : decode b_C_speed 18 = .ok (.ldc 237, 2) := by decide +kernel
theorem d_C_speed_20 : decode b_C_speed 20 = .ok (.invokespecial 84, 3) := by decide +kernel
theorem d_C_speed_23 : decode b_C_speed 23 = .ok (.athrow, 1) := by decide +kernel
theorem d_C_speed_24 : decode b_C_speed 24 = .ok (.iconst 0, 1) := by decide +kernel
theorem d_C_speed_25 : decode b_C_speed 25 = .ok (.istore 4, 2) := by decide +kernel
theorem d_C_speed_27 : decode b_C_speed 27 = .ok (.iload 4, 2) := by decide +kernel
theorem d_C_speed_29 : decode b_C_speed 29 = .ok (.aload_n 0, 1) := by decide +kernel
theorem d_C_speed_30 : decode b_C_speed 30 = .ok (.getfield 227, 3) := by decide +kernel
theorem d_C_speed_33 : decode b_C_speed 33 = .ok (.if_icmp .ge 28, 3) := by decide +kernel
theorem d_C_speed_36 : decode b_C_speed 36 = .ok (.aload_n 0, 1) := by decide +kernel
theorem d_C_speed_37 : decode b_C_speed 37 = .ok (.getfield 40, 3) := by decide +kernel
theorem d_C_speed_40 : decode b_C_speed 40 = .ok (.iload 4, 2) := by decide +kernel
theorem d_C_speed_42 : decode b_C_speed 42 = .ok (.iaload, 1) := by decide +kernel
theorem d_C_speed_43 : decode b_C_speed 43 = .ok (.iload_n 3, 1) := by decide +kernel
theorem d_C_speed_44 : decode b_C_speed 44 = .ok (.if_icmp .lt 11, 3) := by decide +kernel
theorem d_C_speed_47 : decode b_C_speed 47 = .ok (.aload_n 0, 1) := by decide +kernel
theorem d_C_speed_48 : decode b_C_speed 48 = .ok (.getfield 44, 3) := by decide +kernel
theorem d_C_speed_51 : decode b_C_speed 51 = .ok (.iload 4, 2) := by decide +kernel
theorem d_C_speed_53 : decode b_C_speed 53 = .ok (.iaload, 1) := by decide +kernel
theorem d_C_speed_54 : decode b_C_speed 54 = .ok (.ireturn, 1) := by decide +kernel
theorem d_C_speed_55 : decode b_C_speed 55 = .ok (.iinc 4 1, 3) := by decide +kernel
theorem d_C_speed_58 : decode b_C_speed 58 = .ok (.goto (-31), 3) := by decide +kernel
theorem d_C_speed_61 : decode b_C_speed 61 = .ok (.aload_n 0, 1) := by decide +kernel
theorem d_C_speed_62 : decode b_C_speed 62 = .ok (.getfield 44, 3) := by decide +kernel
theorem d_C_speed_65 : decode b_C_speed 65 = .ok (.aload_n 0, 1) := by decide +kernel
theorem d_C_speed_66 : decode b_C_speed 66 = .ok (.getfield 227, 3) := by decide +kernel
theorem d_C_speed_69 : decode b_C_speed 69 = .ok (.iconst 1, 1) := by decide +kernel
theorem d_C_speed_70 : decode b_C_speed 70 = .ok (.isub, 1) := by decide +kernel
theorem d_C_speed_71 : decode b_C_speed 71 = .ok (.iaload, 1) := by decide +kernel
theorem d_C_speed_72 : decode b_C_speed 72 = .ok (.ireturn, 1) := by decide +kernel
theorem d_C_start_0 : decode b_C_start 0 = .ok (.iload_n 1, 1) := by decide +kernel
theorem d_C_start_1 : decode b_C_start 1 = .ok (.iconst 0, 1) := by decide +kernel
theorem d_C_start_2 : decode b_C_start 2 = .ok (.sipush 500, 3) := by decide +kernel
theorem d_C_start_5 : decode b_C_start 5 = .ok (.invokestatic 47, 3) := by decide +kernel
theorem d_C_start_8 : decode b_C_start 8 = .ok (.aload_n 0, 1) := by decide +kernel
theorem d_C_start_9 : decode b_C_start 9 = .ok (.getfield 10, 3) := by decide +kernel
theorem d_C_start_12 : decode b_C_start 12 = .ok (.iload_n 1, 1) := by decide +kernel
theorem d_C_start_13 : decode b_C_start 13 = .ok (.invokevirtual 51, 3) := by decide +kernel
theorem d_C_start_16 : decode b_C_start 16 = .ok (.return_, 1) := by decide +kernel
theorem d_C_steady_0 : decode b_C_steady 0 = .ok (.aload_n 0, 1) := by decide +kernel
theorem d_C_steady_1 : decode b_C_steady 1 = .ok (.iload_n 1, 1) := by decide +kernel
theorem d_C_steady_2 : decode b_C_steady 2 = .ok (.invokevirtual 94, 3) := by decide +kernel
theorem d_C_steady_5 : decode b_C_steady 5 = .ok (.astore 4, 2) := by decide +kernel
theorem d_C_steady_7 : decode b_C_steady 7 = .ok (.iload_n 2, 1) := by decide +kernel
theorem d_C_steady_8 : decode b_C_steady 8 = .ok (.iconst 1, 1) := by decide +kernel
theorem d_C_steady_9 : decode b_C_steady 9 = .ok (.sipush 500, 3) := by decide +kernel
theorem d_C_steady_12 : decode b_C_steady 12 = .ok (.invokestatic 47, 3) := by decide +kernel
theorem d_C_steady_15 : decode b_C_steady 15 = .ok (.iload_n 3, 1) := by decide +kernel
theorem d_C_steady_16 : decode b_C_steady 16 = .ok (.iconst 0, 1) := by decide +kernel
theorem d_C_steady_17 : decode b_C_steady 17 = .ok (.invokestatic 140, 3) := by decide +kernel
theorem d_C_steady_20 : decode b_C_steady 20 = .ok (.iload_n 3, 1) := by decide +kernel
theorem d_C_steady_21 : decode b_C_steady 21 = .ok (.aload 4, 2) := by decide +kernel
theorem d_C_steady_23 : decode b_C_steady 23 = .ok (.getfield 98, 3) := by decide +kernel
theorem d_C_steady_26 : decode b_C_steady 26 = .ok (.invokestatic 147, 3) := by decide +kernel
theorem d_C_steady_29 : decode b_C_steady 29 = .ok (.istore 5, 2) := by decide +kernel
theorem d_C_steady_31 : decode b_C_steady 31 = .ok (.iconst 0, 1) := by decide +kernel
theorem d_C_steady_32 : decode b_C_steady 32 = .ok (.istore 6, 2) := by decide +kernel
theorem d_C_steady_34 : decode b_C_steady 34 = .ok (.iconst 0, 1) := by decide +kernel
theorem d_C_steady_35 : decode b_C_steady 35 = .ok (.istore 7, 2) := by decide +kernel
theorem d_C_steady_37 : decode b_C_steady 37 = .ok (.iload 7, 2) := by decide +kernel
theorem d_C_steady_39 : decode b_C_steady 39 = .ok (.iload 5, 2) := by decide +kernel
theorem d_C_steady_41 : decode b_C_steady 41 = .ok (.if_icmp .gt 29, 3) := by decide +kernel
theorem d_C_steady_44 : decode b_C_steady 44 = .ok (.iload 6, 2) := by decide +kernel
theorem d_C_steady_46 : decode b_C_steady 46 = .ok (.aload 4, 2) := by decide +kernel
theorem d_C_steady_48 : decode b_C_steady 48 = .ok (.getfield 98, 3) := by decide +kernel
theorem d_C_steady_51 : decode b_C_steady 51 = .ok (.if_icmp .ge 19, 3) := by decide +kernel
theorem d_C_steady_54 : decode b_C_steady 54 = .ok (.aload 4, 2) := by decide +kernel
theorem d_C_steady_56 : decode b_C_steady 56 = .ok (.iload 6, 2) := by decide +kernel
theorem d_C_steady_58 : decode b_C_steady 58 = .ok (.iload_n 2, 1) := by decide +kernel
theorem d_C_steady_59 : decode b_C_steady 59 = .ok (.invokevirtual 152, 3) := by decide +kernel
theorem d_C_steady_62 : decode b_C_steady 62 = .ok (.istore 6, 2) := by decide +kernel
theorem d_C_steady_64 : decode b_C_steady 64 = .ok (.iinc 7 1, 3) := by decide +kernel
theorem d_C_steady_67 : decode b_C_steady 67 = .ok (.goto (-30), 3) := by decide +kernel
theorem d_C_steady_70 : decode b_C_steady 70 = .ok (.iload 6, 2) := by decide +kernel
theorem d_C_steady_72 : decode b_C_steady 72 = .ok (.aload 4, 2) := by decide +kernel
theorem d_C_steady_74 : decode b_C_steady 74 = .ok (.getfield 98, 3) := by decide +kernel
theorem d_C_steady_77 : decode b_C_steady 77 = .ok (.if_icmp .lt 13, 3) := by decide +kernel
theorem d_C_steady_80 : decode b_C_steady 80 = .ok (.new 80, 3) := by decide +kernel
theorem d_C_steady_83 : decode b_C_steady 83 = .ok (.dup, 1) := by decide +kernel
theorem d_C_steady_84 : decode b_C_steady 84 = .ok (.ldc 155, 2) := by decide +kernel
theorem d_C_steady_86 : decode b_C_steady 86 = .ok (.invokespecial 84, 3) := by decide +kernel
theorem d_C_steady_89 : decode b_C_steady 89 = .ok (.athrow, 1) := by decide +kernel
theorem d_C_steady_90 : decode b_C_steady 90 = .ok (.iload 6, 2) := by decide +kernel
theorem d_C_steady_92 : decode b_C_steady 92 = .ok (.ireturn, 1) := by decide +kernel
theorem d_C_thread_0 : decode b_C_thread 0 = .ok (.iload_n 1, 1) := by decide +kernel
theorem d_C_thread_1 : decode b_C_thread 1 = .ok (.iconst 1, 1) := by decide +kernel
theorem d_C_thread_2 : decode b_C_thread 2 = .ok (.sipush 1000, 3) := by decide +kernel
theorem d_C_thread_5 : decode b_C_thread 5 = .ok (.invokestatic 47, 3) := by decide +kernel
theorem d_C_thread_8 : decode b_C_thread 8 = .ok (.iload_n 2, 1) := by decide +kernel
theorem d_C_thread_9 : decode b_C_thread 9 = .ok (.iconst 1, 1) := by decide +kernel
theorem d_C_thread_10 : decode b_C_thread 10 = .ok (.sipush 1000, 3) := by decide +kernel
theorem d_C_thread_13 : decode b_C_thread 13 = .ok (.invokestatic 47, 3) := by decide +kernel
theorem d_C_thread_16 : decode b_C_thread 16 = .ok (.aload_n 0, 1) := by decide +kernel
theorem d_C_thread_17 : decode b_C_thread 17 = .ok (.iload_n 1, 1) := by decide +kernel
theorem d_C_thread_18 : decode b_C_thread 18 = .ok (.putfield 218, 3) := by decide +kernel
theorem d_C_thread_21 : decode b_C_thread 21 = .ok (.aload_n 0, 1) := by decide +kernel
theorem d_C_thread_22 : decode b_C_thread 22 = .ok (.iload_n 2, 1) := by decide +kernel
theorem d_C_thread_23 : decode b_C_thread 23 = .ok (.putfield 221, 3) := by decide +kernel
theorem d_C_thread_26 : decode b_C_thread 26 = .ok (.return_, 1) := by decide +kernel
theorem d_C_threadAt_0 : decode b_C_threadAt 0 = .ok (.iload_n 2, 1) := by decide +kernel
theorem d_C_threadAt_1 : decode b_C_threadAt 1 = .ok (.invokestatic 195, 3) := by decide +kernel
theorem d_C_threadAt_4 : decode b_C_threadAt 4 = .ok (.iload_n 1, 1) := by decide +kernel
theorem d_C_threadAt_5 : decode b_C_threadAt 5 = .ok (.iconst 0, 1) := by decide +kernel
theorem d_C_threadAt_6 : decode b_C_threadAt 6 = .ok (.ldc 224, 2) := by decide +kernel
theorem d_C_threadAt_8 : decode b_C_threadAt 8 = .ok (.invokestatic 47, 3) := by decide +kernel
theorem d_C_threadAt_11 : decode b_C_threadAt 11 = .ok (.aload_n 0, 1) := by decide +kernel
theorem d_C_threadAt_12 : decode b_C_threadAt 12 = .ok (.getfield 221, 3) := by decide +kernel
theorem d_C_threadAt_15 : decode b_C_threadAt 15 = .ok (.ifCond .ne 13, 3) := by decide +kernel
theorem d_C_threadAt_18 : decode b_C_threadAt 18 = .ok (.new 80, 3) := by decide +kernel
theorem d_C_threadAt_21 : decode b_C_threadAt 21 = .ok (.dup, 1) := by decide +kernel
theorem d_C_threadAt_22 : decode b_C_threadAt 22 = .ok (.ldc 225, 2) := by decide +kernel
theorem d_C_threadAt_24 : decode b_C_threadAt 24 = .ok (.invokespecial 84, 3) := by decide +kernel
theorem d_C_threadAt_27 : decode b_C_threadAt 27 = .ok (.athrow, 1) := by decide +kernel
theorem d_C_threadAt_28 : decode b_C_threadAt 28 = .ok (.iload_n 1, 1) := by decide +kernel
theorem d_C_threadAt_29 : decode b_C_threadAt 29 = .ok (.i2l, 1) := by decide +kernel
theorem d_C_threadAt_30 : decode b_C_threadAt 30 = .ok (.aload_n 0, 1) := by decide +kernel
theorem d_C_threadAt_31 : decode b_C_threadAt 31 = .ok (.getfield 218, 3) := by decide +kernel
theorem d_C_threadAt_34 : decode b_C_threadAt 34 = .ok (.i2l, 1) := by decide +kernel
theorem d_C_threadAt_35 : decode b_C_threadAt 35 = .ok (.lmul, 1) := by decide +kernel
theorem d_C_threadAt_36 : decode b_C_threadAt 36 = .ok (.aload_n 0, 1) := by decide +kernel
theorem d_C_threadAt_37 : decode b_C_threadAt 37 = .ok (.getfield 221, 3) := by decide +kernel
theorem d_C_threadAt_40 : decode b_C_threadAt 40 = .ok (.i2l, 1) := by decide +kernel
theorem d_C_threadAt_41 : decode b_C_threadAt 41 = .ok (.iload_n 2, 1) := by decide +kernel
theorem d_C_threadAt_42 : decode b_C_threadAt 42 = .ok (.invokestatic 206, 3) := by decide +kernel
theorem d_C_threadAt_45 : decode b_C_threadAt 45 = .ok (.lreturn, 1) := by decide +kernel
theorem d_C_tool_0 : decode b_C_tool 0 = .ok (.iload_n 1, 1) := by decide +kernel
theorem d_C_tool_1 : decode b_C_tool 1 = .ok (.iconst 0, 1) := by decide +kernel
theorem d_C_tool_2 : decode b_C_tool 2 = .ok (.bipush 12, 2) := by decide +kernel
theorem d_C_tool_4 : decode b_C_tool 4 = .ok (.invokestatic 47, 3) := by decide +kernel
theorem d_C_tool_7 : decode b_C_tool 7 = .ok (.aload_n 0, 1) := by decide +kernel
theorem d_C_tool_8 : decode b_C_tool 8 = .ok (.getfield 110, 3) := by decide +kernel
theorem d_C_tool_11 : decode b_C_tool 11 = .ok (.bipush 6, 2) := by decide +kernel
theorem d_C_tool_13 : decode b_C_tool 13 = .ok (.if_icmp .lt 13, 3) := by decide +kernel
theorem d_C_tool_16 : decode b_C_tool 16 = .ok (.new 80, 3) := by decide +kernel
theorem d_C_tool_19 : decode b_C_tool 19 = .ok (.dup, 1) := by decide +kernel
theorem d_C_tool_20 : decode b_C_tool 20 = .ok (.ldc 113, 2) := by decide +kernel
theorem d_C_tool_22 : decode b_C_tool 22 = .ok (.invokespecial 84, 3) := by decide +kernel
theorem d_C_tool_25 : decode b_C_tool 25 = .ok (.athrow, 1) := by decide +kernel
theorem d_C_tool_26 : decode b_C_tool 26 = .ok (.aload_n 0, 1) := by decide +kernel
theorem d_C_tool_27 : decode b_C_tool 27 = .ok (.getfield 24, 3) := by decide +kernel
theorem d_C_tool_30 : decode b_C_tool 30 = .ok (.aload_n 0, 1) := by decide +kernel
theorem d_C_tool_31 : decode b_C_tool 31 = .ok (.getfield 110, 3) := by decide +kernel
theorem d_C_tool_34 : decode b_C_tool 34 = .ok (.new 22, 3) := by decide +kernel
theorem d_C_tool_37 : decode b_C_tool 37 = .ok (.dup, 1) := by decide +kernel
theorem d_C_tool_38 : decode b_C_tool 38 = .ok (.iload_n 1, 1) := by decide +kernel
theorem d_C_tool_39 : decode b_C_tool 39 = .ok (.invokespecial 115, 3) := by decide +kernel
theorem d_C_tool_42 : decode b_C_tool 42 = .ok (.aastore, 1) := by decide +kernel
theorem d_C_tool_43 : decode b_C_tool 43 = .ok (.aload_n 0, 1) := by decide +kernel
theorem d_C_tool_44 : decode b_C_tool 44 = .ok (.dup, 1) := by decide +kernel
theorem d_C_tool_45 : decode b_C_tool 45 = .ok (.getfield 110, 3) := by decide +kernel
theorem d_C_tool_48 : decode b_C_tool 48 = .ok (.iconst 1, 1) := by decide +kernel
theorem d_C_tool_49 : decode b_C_tool 49 = .ok (.iadd, 1) := by decide +kernel
theorem d_C_tool_50 : decode b_C_tool 50 = .ok (.putfield 110, 3) := by decide +kernel
theorem d_C_tool_53 : decode b_C_tool 53 = .ok (.aload_n 0, 1) := by decide +kernel
theorem d_C_tool_54 : decode b_C_tool 54 = .ok (.getfield 110, 3) := by decide +kernel
theorem d_C_tool_57 : decode b_C_tool 57 = .ok (.iconst 1, 1) := by decide +kernel
theorem d_C_tool_58 : decode b_C_tool 58 = .ok (.isub, 1) := by decide +kernel
theorem d_C_tool_59 : decode b_C_tool 59 = .ok (.ireturn, 1) := by decide +kernel
theorem d_C_turn_0 : decode b_C_turn 0 = .ok (.aload_n 0, 1) := by decide +kernel
theorem d_C_turn_1 : decode b_C_turn 1 = .ok (.getfield 77, 3) := by decide +kernel
theorem d_C_turn_4 : decode b_C_turn 4 = .ok (.bipush 6, 2) := by decide +kernel
theorem d_C_turn_6 : decode b_C_turn 6 = .ok (.if_icmp .ge 13, 3) := by decide +kernel
theorem d_C_turn_9 : decode b_C_turn 9 = .ok (.aload_n 0, 1) := by decide +kernel
theorem d_C_turn_10 : decode b_C_turn 10 = .ok (.getfield 10, 3) := by decide +kernel
theorem d_C_turn_13 : decode b_C_turn 13 = .ok (.getfield 65, 3) := by decide +kernel
theorem d_C_turn_16 : decode b_C_turn 16 = .ok (.ifCond .ne 13, 3) := by decide +kernel
theorem d_C_turn_19 : decode b_C_turn 19 = .ok (.new 80, 3) := by decide +kernel
theorem d_C_turn_22 : decode b_C_turn 22 = .ok (.dup, 1) := by decide +kernel
theorem d_C_turn_23 : decode b_C_turn 23 = .ok (.ldc 82, 2) := by decide +kernel
theorem d_C_turn_25 : decode b_C_turn 25 = .ok (.invokespecial 84, 3) := by decide +kernel
theorem d_C_turn_28 : decode b_C_turn 28 = .ok (.athrow, 1) := by decide +kernel
theorem d_C_turn_29 : decode b_C_turn 29 = .ok (.aload_n 0, 1) := by decide +kernel
theorem d_C_turn_30 : decode b_C_turn 30 = .ok (.getfield 18, 3) := by decide +kernel
theorem d_C_turn_33 : decode b_C_turn 33 = .ok (.aload_n 0, 1) := by decide +kernel
theorem d_C_turn_34 : decode b_C_turn 34 = .ok (.getfield 77, 3) := by decide +kernel
theorem d_C_turn_37 : decode b_C_turn 37 = .ok (.new 16, 3) := by decide +kernel
theorem d_C_turn_40 : decode b_C_turn 40 = .ok (.dup, 1) := by decide +kernel
theorem d_C_turn_41 : decode b_C_turn 41 = .ok (.aload_n 0, 1) := by decide +kernel
theorem d_C_turn_42 : decode b_C_turn 42 = .ok (.getfield 10, 3) := by decide +kernel
theorem d_C_turn_45 : decode b_C_turn 45 = .ok (.invokespecial 87, 3) := by decide +kernel
theorem d_C_turn_48 : decode b_C_turn 48 = .ok (.aastore, 1) := by decide +kernel
theorem d_C_turn_49 : decode b_C_turn 49 = .ok (.aload_n 0, 1) := by decide +kernel
theorem d_C_turn_50 : decode b_C_turn 50 = .ok (.dup, 1) := by decide +kernel
theorem d_C_turn_51 : decode b_C_turn 51 = .ok (.getfield 77, 3) := by decide +kernel
theorem d_C_turn_54 : decode b_C_turn 54 = .ok (.iconst 1, 1) := by decide +kernel
theorem d_C_turn_55 : decode b_C_turn 55 = .ok (.iadd, 1) := by decide +kernel
theorem d_C_turn_56 : decode b_C_turn 56 = .ok (.putfield 77, 3) := by decide +kernel
theorem d_C_turn_59 : decode b_C_turn 59 = .ok (.aload_n 0, 1) := by decide +kernel
theorem d_C_turn_60 : decode b_C_turn 60 = .ok (.getfield 77, 3) := by decide +kernel
theorem d_C_turn_63 : decode b_C_turn 63 = .ok (.iconst 1, 1) := by decide +kernel
theorem d_C_turn_64 : decode b_C_turn 64 = .ok (.isub, 1) := by decide +kernel
theorem d_C_turn_65 : decode b_C_turn 65 = .ok (.ireturn, 1) := by decide +kernel
theorem d_C_volume_0 : decode b_C_volume 0 = .ok (.aload_n 0, 1) := by decide +kernel
theorem d_C_volume_1 : decode b_C_volume 1 = .ok (.iload_n 1, 1) := by decide +kernel
theorem d_C_volume_2 : decode b_C_volume 2 = .ok (.invokevirtual 94, 3) := by decide +kernel
theorem d_C_volume_5 : decode b_C_volume 5 = .ok (.iload_n 2, 1) := by decide +kernel
theorem d_C_volume_6 : decode b_C_volume 6 = .ok (.invokevirtual 157, 3) := by decide +kernel
theorem d_C_volume_9 : decode b_C_volume 9 = .ok (.lstore_n 3, 1) := by decide +kernel
theorem d_C_volume_10 : decode b_C_volume 10 = .ok (.iload_n 2, 1) := by decide +kernel
theorem d_C_volume_11 : decode b_C_volume 11 = .ok (.ifCond .eq 17, 3) := by decide +kernel
theorem d_C_volume_14 : decode b_C_volume 14 = .ok (.lload_n 3, 1) := by decide +kernel
theorem d_C_volume_15 : decode b_C_volume 15 = .ok (.ldc2_w 161, 3) := by decide +kernel
theorem d_C_volume_18 : decode b_C_volume 18 = .ok (.lmul, 1) := by decide +kernel
theorem d_C_volume_19 : decode b_C_volume 19 = .ok (.ldc2_w 163, 3) := by decide +kernel
theorem d_C_volume_22 : decode b_C_volume 22 = .ok (.ldiv, 1) := by decide +kernel
theorem d_C_volume_23 : decode b_C_volume 23 = .ok (.lconst 1, 1) := by decide +kernel
theorem d_C_volume_24 : decode b_C_volume 24 = .ok (.ladd, 1) := by decide +kernel
theorem d_C_volume_25 : decode b_C_volume 25 = .ok (.goto 12, 3) := by decide +kernel
theorem d_C_volume_28 : decode b_C_volume 28 = .ok (.lload_n 3, 1) := by decide +kernel
theorem d_C_volume_29 : decode b_C_volume 29 = .ok (.ldc2_w 165, 3) := by decide +kernel
theorem d_C_volume_32 : decode b_C_volume 32 = .ok (.lmul, 1) := by decide +kernel
theorem d_C_volume_33 : decode b_C_volume 33 = .ok (.ldc2_w 163, 3) := by decide +kernel
theorem d_C_volume_36 : decode b_C_volume 36 = .ok (.ldiv, 1) := by decide +kernel
theorem d_C_volume_37 : decode b_C_volume 37 = .ok (.lreturn, 1) := by decide +kernel
theorem d_C_wedge_0 : decode b_C_wedge 0 = .ok (.aload_n 0, 1) := by decide +kernel
theorem d_C_wedge_1 : decode b_C_wedge 1 = .ok (.iload_n 1, 1) := by decide +kernel
theorem d_C_wedge_2 : decode b_C_wedge 2 = .ok (.invokevirtual 181, 3) := by decide +kernel
theorem d_C_wedge_5 : decode b_C_wedge 5 = .ok (.astore 4, 2) := by decide +kernel
theorem d_C_wedge_7 : decode b_C_wedge 7 = .ok (.iload_n 2, 1) := by decide +kernel
theorem d_C_wedge_8 : decode b_C_wedge 8 = .ok (.iconst 1, 1) := by decide +kernel
theorem d_C_wedge_9 : decode b_C_wedge 9 = .ok (.sipush 3600, 3) := by decide +kernel
theorem d_C_wedge_12 : decode b_C_wedge 12 = .ok (.invokestatic 47, 3) := by decide +kernel
theorem d_C_wedge_15 : decode b_C_wedge 15 = .ok (.iload_n 3, 1) := by decide +kernel
theorem d_C_wedge_16 : decode b_C_wedge 16 = .ok (.iconst 1, 1) := by decide +kernel
theorem d_C_wedge_17 : decode b_C_wedge 17 = .ok (.bipush 12, 2) := by decide +kernel
theorem d_C_wedge_19 : decode b_C_wedge 19 = .ok (.invokestatic 47, 3) := by decide +kernel
theorem d_C_wedge_22 : decode b_C_wedge 22 = .ok (.aload 4, 2) := by decide +kernel
theorem d_C_wedge_24 : decode b_C_wedge 24 = .ok (.getfield 185, 3) := by decide +kernel
theorem d_C_wedge_27 : decode b_C_wedge 27 = .ok (.bipush 16, 2) := by decide +kernel
theorem d_C_wedge_29 : decode b_C_wedge 29 = .ok (.if_icmp .lt 13, 3) := by decide +kernel
theorem d_C_wedge_32 : decode b_C_wedge 32 = .ok (.new 80, 3) := by decide +kernel
theorem d_C_wedge_35 : decode b_C_wedge 35 = .ok (.dup, 1) := by decide +kernel
theorem d_C_wedge_36 : decode b_C_wedge 36 = .ok (.ldc 188, 2) := by decide +kernel
theorem d_C_wedge_38 : decode b_C_wedge 38 = .ok (.invokespecial 84, 3) := by decide +kernel
theorem d_C_wedge_41 : decode b_C_wedge 41 = .ok (.athrow, 1) := by decide +kernel
theorem d_C_wedge_42 : decode b_C_wedge 42 = .ok (.aload 4, 2) := by decide +kernel
theorem d_C_wedge_44 : decode b_C_wedge 44 = .ok (.iload_n 2, 1) := by decide +kernel
theorem d_C_wedge_45 : decode b_C_wedge 45 = .ok (.iload_n 3, 1) := by decide +kernel
theorem d_C_wedge_46 : decode b_C_wedge 46 = .ok (.invokevirtual 190, 3) := by decide +kernel
theorem d_C_wedge_49 : decode b_C_wedge 49 = .ok (.aload 4, 2) := by decide +kernel
theorem d_C_wedge_51 : decode b_C_wedge 51 = .ok (.getfield 185, 3) := by decide +kernel
theorem d_C_wedge_54 : decode b_C_wedge 54 = .ok (.ireturn, 1) := by decide +kernel
theorem d_C_wholeRoot_0 : decode b_C_wholeRoot 0 = .ok (.iconst 0, 1) := by decide +kernel
theorem d_C_wholeRoot_1 : decode b_C_wholeRoot 1 = .ok (.istore_n 1, 1) := by decide +kernel
theorem d_C_wholeRoot_2 : decode b_C_wholeRoot 2 = .ok (.bipush 11, 2) := by decide +kernel
theorem d_C_wholeRoot_4 : decode b_C_wholeRoot 4 = .ok (.istore_n 2, 1) := by decide +kernel
theorem d_C_wholeRoot_5 : decode b_C_wholeRoot 5 = .ok (.iload_n 2, 1) := by decide +kernel
theorem d_C_wholeRoot_6 : decode b_C_wholeRoot 6 = .ok (.ifCond .lt 24, 3) := by decide +kernel
theorem d_C_wholeRoot_9 : decode b_C_wholeRoot 9 = .ok (.iload_n 1, 1) := by decide +kernel
theorem d_C_wholeRoot_10 : decode b_C_wholeRoot 10 = .ok (.iconst 1, 1) := by decide +kernel
theorem d_C_wholeRoot_11 : decode b_C_wholeRoot 11 = .ok (.iload_n 2, 1) := by decide +kernel
theorem d_C_wholeRoot_12 : decode b_C_wholeRoot 12 = .ok (.ishl, 1) := by decide +kernel
theorem d_C_wholeRoot_13 : decode b_C_wholeRoot 13 = .ok (.iadd, 1) := by decide +kernel
theorem d_C_wholeRoot_14 : decode b_C_wholeRoot 14 = .ok (.istore_n 3, 1) := by decide +kernel
theorem d_C_wholeRoot_15 : decode b_C_wholeRoot 15 = .ok (.iload_n 3, 1) := by decide +kernel
theorem d_C_wholeRoot_16 : decode b_C_wholeRoot 16 = .ok (.iload_n 3, 1) := by decide +kernel
theorem d_C_wholeRoot_17 : decode b_C_wholeRoot 17 = .ok (.imul, 1) := by decide +kernel
theorem d_C_wholeRoot_18 : decode b_C_wholeRoot 18 = .ok (.iload_n 0, 1) := by decide +kernel
theorem d_C_wholeRoot_19 : decode b_C_wholeRoot 19 = .ok (.if_icmp .gt 5, 3) := by decide +kernel
theorem d_C_wholeRoot_22 : decode b_C_wholeRoot 22 = .ok (.iload_n 3, 1) := by decide +kernel
theorem d_C_wholeRoot_23 : decode b_C_wholeRoot 23 = .ok (.istore_n 1, 1) := by decide +kernel
theorem d_C_wholeRoot_24 : decode b_C_wholeRoot 24 = .ok (.iinc 2 (-1), 3) := by decide +kernel
theorem d_C_wholeRoot_27 : decode b_C_wholeRoot 27 = .ok (.goto (-22), 3) := by decide +kernel
theorem d_C_wholeRoot_30 : decode b_C_wholeRoot 30 = .ok (.iload_n 1, 1) := by decide +kernel
theorem d_C_wholeRoot_31 : decode b_C_wholeRoot 31 = .ok (.ireturn, 1) := by decide +kernel
