theorem d_L_about_0 : decode b_L_about 0 = .ok (.aload_n 3, 1) := by decide +kernel
theorem d_L_about_1 : decode b_L_about 1 = .ok (.iconst 0, 1) := by decide +kernel
theorem d_L_about_2 : decode b_L_about 2 = .ok (.aload_n 0, 1) := by decide +kernel
theorem d_L_about_3 : decode b_L_about 3 = .ok (.iload_n 1, 1) := by decide +kernel
theorem d_L_about_4 : decode b_L_about 4 = .ok (.iload_n 2, 1) := by decide +kernel
theorem d_L_about_5 : decode b_L_about 5 = .ok (.invokevirtual 34, 3) := by decide +kernel
theorem d_L_about_8 : decode b_L_about 8 = .ok (.i2l, 1) := by decide +kernel
theorem d_L_about_9 : decode b_L_about 9 = .ok (.lastore, 1) := by decide +kernel
theorem d_L_about_10 : decode b_L_about 10 = .ok (.goto 7, 3) := by decide +kernel
theorem d_L_about_13 : decode b_L_about 13 = .ok (.astore 4, 2) := by decide +kernel
theorem d_L_about_15 : decode b_L_about 15 = .ok (.iconst 1, 1) := by decide +kernel
theorem d_L_about_16 : decode b_L_about 16 = .ok (.ireturn, 1) := by decide +kernel
theorem d_L_about_17 : decode b_L_about 17 = .ok (.iconst 0, 1) := by decide +kernel
theorem d_L_about_18 : decode b_L_about 18 = .ok (.ireturn, 1) := by decide +kernel
theorem d_L_arc_0 : decode b_L_arc 0 = .ok (.aload 6, 2) := by decide +kernel
theorem d_L_arc_2 : decode b_L_arc 2 = .ok (.iconst 0, 1) := by decide +kernel
theorem d_L_arc_3 : decode b_L_arc 3 = .ok (.aload_n 0, 1) := by decide +kernel
theorem d_L_arc_4 : decode b_L_arc 4 = .ok (.iload_n 1, 1) := by decide +kernel
theorem d_L_arc_5 : decode b_L_arc 5 = .ok (.iload_n 2, 1) := by decide +kernel
theorem d_L_arc_6 : decode b_L_arc 6 = .ok (.iload_n 3, 1) := by decide +kernel
theorem d_L_arc_7 : decode b_L_arc 7 = .ok (.iload 4, 2) := by decide +kernel
theorem d_L_arc_9 : decode b_L_arc 9 = .ok (.iload 5, 2) := by decide +kernel
theorem d_L_arc_11 : decode b_L_arc 11 = .ok (.invokevirtual 21, 3) := by decide +kernel
theorem d_L_arc_14 : decode b_L_arc 14 = .ok (.ifCond .eq 7, 3) := by decide +kernel
theorem d_L_arc_17 : decode b_L_arc 17 = .ok (.lconst 1, 1) := by decide +kernel
theorem d_L_arc_18 : decode b_L_arc 18 = .ok (.goto 4, 3) := by decide +kernel
theorem d_L_arc_21 : decode b_L_arc 21 = .ok (.lconst 0, 1) := by decide +kernel
theorem d_L_arc_22 : decode b_L_arc 22 = .ok (.lastore, 1) := by decide +kernel
theorem d_L_arc_23 : decode b_L_arc 23 = .ok (.goto 11, 3) := by decide +kernel
theorem d_L_arc_26 : decode b_L_arc 26 = .ok (.astore 7, 2) := by decide +kernel
theorem d_L_arc_28 : decode b_L_arc 28 = .ok (.iconst 1, 1) := by decide +kernel
theorem d_L_arc_29 : decode b_L_arc 29 = .ok (.ireturn, 1) := by decide +kernel
theorem d_L_arc_30 : decode b_L_arc 30 = .ok (.astore 7, 2) := by decide +kernel
theorem d_L_arc_32 : decode b_L_arc 32 = .ok (.iconst 2, 1) := by decide +kernel
theorem d_L_arc_33 : decode b_L_arc 33 = .ok (.ireturn, 1) := by decide +kernel
theorem d_L_arc_34 : decode b_L_arc 34 = .ok (.iconst 0, 1) := by decide +kernel
theorem d_L_arc_35 : decode b_L_arc 35 = .ok (.ireturn, 1) := by decide +kernel
theorem d_L_closes_0 : decode b_L_closes 0 = .ok (.aload_n 2, 1) := by decide +kernel
theorem d_L_closes_1 : decode b_L_closes 1 = .ok (.iconst 0, 1) := by decide +kernel
theorem d_L_closes_2 : decode b_L_closes 2 = .ok (.aload_n 0, 1) := by decide +kernel
theorem d_L_closes_3 : decode b_L_closes 3 = .ok (.iload_n 1, 1) := by decide +kernel
theorem d_L_closes_4 : decode b_L_closes 4 = .ok (.invokevirtual 83, 3) := by decide +kernel
theorem d_L_closes_7 : decode b_L_closes 7 = .ok (.ifCond .eq 7, 3) := by decide +kernel
theorem d_L_closes_10 : decode b_L_closes 10 = .ok (.lconst 1, 1) := by decide +kernel
theorem d_L_closes_11 : decode b_L_closes 11 = .ok (.goto 4, 3) := by decide +kernel
theorem d_L_closes_14 : decode b_L_closes 14 = .ok (.lconst 0, 1) := by decide +kernel
theorem d_L_closes_15 : decode b_L_closes 15 = .ok (.lastore, 1) := by decide +kernel
theorem d_L_closes_16 : decode b_L_closes 16 = .ok (.goto 6, 3) := by decide +kernel
theorem d_L_closes_19 : decode b_L_closes 19 = .ok (.astore_n 3, 1) := by decide +kernel
theorem d_L_closes_20 : decode b_L_closes 20 = .ok (.iconst 1, 1) := by decide +kernel
theorem d_L_closes_21 : decode b_L_closes 21 = .ok (.ireturn, 1) := by decide +kernel
theorem d_L_closes_22 : decode b_L_closes 22 = .ok (.iconst 0, 1) := by decide +kernel
theorem d_L_closes_23 : decode b_L_closes 23 = .ok (.ireturn, 1) := by decide +kernel
theorem d_L_copy_0 : decode b_L_copy 0 = .ok (.aload_n 3, 1) := by decide +kernel
theorem d_L_copy_1 : decode b_L_copy 1 = .ok (.iconst 0, 1) := by decide +kernel
theorem d_L_copy_2 : decode b_L_copy 2 = .ok (.aload_n 0, 1) := by decide +kernel
theorem d_L_copy_3 : decode b_L_copy 3 = .ok (.iload_n 1, 1) := by decide +kernel
theorem d_L_copy_4 : decode b_L_copy 4 = .ok (.iload_n 2, 1) := by decide +kernel
theorem d_L_copy_5 : decode b_L_copy 5 = .ok (.invokevirtual 66, 3) := by decide +kernel
theorem d_L_copy_8 : decode b_L_copy 8 = .ok (.i2l, 1) := by decide +kernel
theorem d_L_copy_9 : decode b_L_copy 9 = .ok (.lastore, 1) := by decide +kernel
theorem d_L_copy_10 : decode b_L_copy 10 = .ok (.goto 7, 3) := by decide +kernel
theorem d_L_copy_13 : decode b_L_copy 13 = .ok (.astore 4, 2) := by decide +kernel
theorem d_L_copy_15 : decode b_L_copy 15 = .ok (.iconst 1, 1) := by decide +kernel
theorem d_L_copy_16 : decode b_L_copy 16 = .ok (.ireturn, 1) := by decide +kernel
theorem d_L_copy_17 : decode b_L_copy 17 = .ok (.iconst 0, 1) := by decide +kernel
theorem d_L_copy_18 : decode b_L_copy 18 = .ok (.ireturn, 1) := by decide +kernel
theorem d_L_cut_0 : decode b_L_cut 0 = .ok (.aload 6, 2) := by decide +kernel
theorem d_L_cut_2 : decode b_L_cut 2 = .ok (.iconst 0, 1) := by decide +kernel
theorem d_L_cut_3 : decode b_L_cut 3 = .ok (.aload_n 0, 1) := by decide +kernel
theorem d_L_cut_4 : decode b_L_cut 4 = .ok (.iload_n 1, 1) := by decide +kernel
theorem d_L_cut_5 : decode b_L_cut 5 = .ok (.iload_n 2, 1) := by decide +kernel
theorem d_L_cut_6 : decode b_L_cut 6 = .ok (.iload_n 3, 1) := by decide +kernel
theorem d_L_cut_7 : decode b_L_cut 7 = .ok (.iload 4, 2) := by decide +kernel
theorem d_L_cut_9 : decode b_L_cut 9 = .ok (.iload 5, 2) := by decide +kernel
theorem d_L_cut_11 : decode b_L_cut 11 = .ok (.invokevirtual 52, 3) := by decide +kernel
theorem d_L_cut_14 : decode b_L_cut 14 = .ok (.i2l, 1) := by decide +kernel
theorem d_L_cut_15 : decode b_L_cut 15 = .ok (.lastore, 1) := by decide +kernel
theorem d_L_cut_16 : decode b_L_cut 16 = .ok (.goto 11, 3) := by decide +kernel
theorem d_L_cut_19 : decode b_L_cut 19 = .ok (.astore 7, 2) := by decide +kernel
theorem d_L_cut_21 : decode b_L_cut 21 = .ok (.iconst 1, 1) := by decide +kernel
theorem d_L_cut_22 : decode b_L_cut 22 = .ok (.ireturn, 1) := by decide +kernel
theorem d_L_cut_23 : decode b_L_cut 23 = .ok (.astore 7, 2) := by decide +kernel
theorem d_L_cut_25 : decode b_L_cut 25 = .ok (.iconst 2, 1) := by decide +kernel
theorem d_L_cut_26 : decode b_L_cut 26 = .ok (.ireturn, 1) := by decide +kernel
theorem d_L_cut_27 : decode b_L_cut 27 = .ok (.iconst 0, 1) := by decide +kernel
theorem d_L_cut_28 : decode b_L_cut 28 = .ok (.ireturn, 1) := by decide +kernel
theorem d_L_flute_0 : decode b_L_flute 0 = .ok (.aload 4, 2) := by decide +kernel
theorem d_L_flute_2 : decode b_L_flute 2 = .ok (.iconst 0, 1) := by decide +kernel
theorem d_L_flute_3 : decode b_L_flute 3 = .ok (.aload_n 0, 1) := by decide +kernel
theorem d_L_flute_4 : decode b_L_flute 4 = .ok (.iload_n 1, 1) := by decide +kernel
theorem d_L_flute_5 : decode b_L_flute 5 = .ok (.iload_n 2, 1) := by decide +kernel
theorem d_L_flute_6 : decode b_L_flute 6 = .ok (.iload_n 3, 1) := by decide +kernel
theorem d_L_flute_7 : decode b_L_flute 7 = .ok (.invokevirtual 87, 3) := by decide +kernel
theorem d_L_flute_10 : decode b_L_flute 10 = .ok (.lastore, 1) := by decide +kernel
theorem d_L_flute_11 : decode b_L_flute 11 = .ok (.goto 11, 3) := by decide +kernel
theorem d_L_flute_14 : decode b_L_flute 14 = .ok (.astore 5, 2) := by decide +kernel
theorem d_L_flute_16 : decode b_L_flute 16 = .ok (.iconst 1, 1) := by decide +kernel
theorem d_L_flute_17 : decode b_L_flute 17 = .ok (.ireturn, 1) := by decide +kernel
theorem d_L_flute_18 : decode b_L_flute 18 = .ok (.astore 5, 2) := by decide +kernel
theorem d_L_flute_20 : decode b_L_flute 20 = .ok (.iconst 2, 1) := by decide +kernel
theorem d_L_flute_21 : decode b_L_flute 21 = .ok (.ireturn, 1) := by decide +kernel
theorem d_L_flute_22 : decode b_L_flute 22 = .ok (.iconst 0, 1) := by decide +kernel
theorem d_L_flute_23 : decode b_L_flute 23 = .ok (.ireturn, 1) := by decide +kernel
theorem d_L_gap_0 : decode b_L_gap 0 = .ok (.aload_n 3, 1) := by decide +kernel
theorem d_L_gap_1 : decode b_L_gap 1 = .ok (.iconst 0, 1) := by decide +kernel
theorem d_L_gap_2 : decode b_L_gap 2 = .ok (.aload_n 0, 1) := by decide +kernel
theorem d_L_gap_3 : decode b_L_gap 3 = .ok (.iload_n 1, 1) := by decide +kernel
theorem d_L_gap_4 : decode b_L_gap 4 = .ok (.iload_n 2, 1) := by decide +kernel
theorem d_L_gap_5 : decode b_L_gap 5 = .ok (.invokevirtual 79, 3) := by decide +kernel
theorem d_L_gap_8 : decode b_L_gap 8 = .ok (.lastore, 1) := by decide +kernel
theorem d_L_gap_9 : decode b_L_gap 9 = .ok (.goto 7, 3) := by decide +kernel
theorem d_L_gap_12 : decode b_L_gap 12 = .ok (.astore 4, 2) := by decide +kernel
theorem d_L_gap_14 : decode b_L_gap 14 = .ok (.iconst 1, 1) := by decide +kernel
theorem d_L_gap_15 : decode b_L_gap 15 = .ok (.ireturn, 1) := by decide +kernel
theorem d_L_gap_16 : decode b_L_gap 16 = .ok (.iconst 0, 1) := by decide +kernel
theorem d_L_gap_17 : decode b_L_gap 17 = .ok (.ireturn, 1) := by decide +kernel
theorem d_L_hollow_0 : decode b_L_hollow 0 = .ok (.aload 4, 2) := by decide +kernel
theorem d_L_hollow_2 : decode b_L_hollow 2 = .ok (.iconst 0, 1) := by decide +kernel
theorem d_L_hollow_3 : decode b_L_hollow 3 = .ok (.aload_n 0, 1) := by decide +kernel
theorem d_L_hollow_4 : decode b_L_hollow 4 = .ok (.iload_n 1, 1) := by decide +kernel
theorem d_L_hollow_5 : decode b_L_hollow 5 = .ok (.iload_n 2, 1) := by decide +kernel
theorem d_L_hollow_6 : decode b_L_hollow 6 = .ok (.iload_n 3, 1) := by decide +kernel
theorem d_L_hollow_7 : decode b_L_hollow 7 = .ok (.invokevirtual 63, 3) := by decide +kernel
theorem d_L_hollow_10 : decode b_L_hollow 10 = .ok (.i2l, 1) := by decide +kernel
theorem d_L_hollow_11 : decode b_L_hollow 11 = .ok (.lastore, 1) := by decide +kernel
theorem d_L_hollow_12 : decode b_L_hollow 12 = .ok (.goto 11, 3) := by decide +kernel
theorem d_L_hollow_15 : decode b_L_hollow 15 = .ok (.astore 5, 2) := by decide +kernel
theorem d_L_hollow_17 : decode b_L_hollow 17 = .ok (.iconst 1, 1) := by decide +kernel
theorem d_L_hollow_18 : decode b_L_hollow 18 = .ok (.ireturn, 1) := by decide +kernel
theorem d_L_hollow_19 : decode b_L_hollow 19 = .ok (.astore 5, 2) := by decide +kernel
theorem d_L_hollow_21 : decode b_L_hollow 21 = .ok (.iconst 2, 1) := by decide +kernel
theorem d_L_hollow_22 : decode b_L_hollow 22 = .ok (.ireturn, 1) := by decide +kernel
theorem d_L_hollow_23 : decode b_L_hollow 23 = .ok (.iconst 0, 1) := by decide +kernel
theorem d_L_hollow_24 : decode b_L_hollow 24 = .ok (.ireturn, 1) := by decide +kernel
theorem d_L_left_0 : decode b_L_left 0 = .ok (.aload_n 3, 1) := by decide +kernel
theorem d_L_left_1 : decode b_L_left 1 = .ok (.iconst 0, 1) := by decide +kernel
theorem d_L_left_2 : decode b_L_left 2 = .ok (.aload_n 0, 1) := by decide +kernel
theorem d_L_left_3 : decode b_L_left 3 = .ok (.iload_n 1, 1) := by decide +kernel
theorem d_L_left_4 : decode b_L_left 4 = .ok (.iload_n 2, 1) := by decide +kernel
theorem d_L_left_5 : decode b_L_left 5 = .ok (.invokevirtual 45, 3) := by decide +kernel
theorem d_L_left_8 : decode b_L_left 8 = .ok (.i2l, 1) := by decide +kernel
theorem d_L_left_9 : decode b_L_left 9 = .ok (.lastore, 1) := by decide +kernel
theorem d_L_left_10 : decode b_L_left 10 = .ok (.goto 7, 3) := by decide +kernel
theorem d_L_left_13 : decode b_L_left 13 = .ok (.astore 4, 2) := by decide +kernel
theorem d_L_left_15 : decode b_L_left 15 = .ok (.iconst 1, 1) := by decide +kernel
theorem d_L_left_16 : decode b_L_left 16 = .ok (.ireturn, 1) := by decide +kernel
theorem d_L_left_17 : decode b_L_left 17 = .ok (.iconst 0, 1) := by decide +kernel
theorem d_L_left_18 : decode b_L_left 18 = .ok (.ireturn, 1) := by decide +kernel
theorem d_L_line_0 : decode b_L_line 0 = .ok (.aload_n 3, 1) := by decide +kernel
theorem d_L_line_1 : decode b_L_line 1 = .ok (.iconst 0, 1) := by decide +kernel
theorem d_L_line_2 : decode b_L_line 2 = .ok (.aload_n 0, 1) := by decide +kernel
theorem d_L_line_3 : decode b_L_line 3 = .ok (.iload_n 1, 1) := by decide +kernel
theorem d_L_line_4 : decode b_L_line 4 = .ok (.iload_n 2, 1) := by decide +kernel
theorem d_L_line_5 : decode b_L_line 5 = .ok (.invokevirtual 15, 3) := by decide +kernel
theorem d_L_line_8 : decode b_L_line 8 = .ok (.i2l, 1) := by decide +kernel
theorem d_L_line_9 : decode b_L_line 9 = .ok (.lastore, 1) := by decide +kernel
theorem d_L_line_10 : decode b_L_line 10 = .ok (.goto 11, 3) := by decide +kernel
theorem d_L_line_13 : decode b_L_line 13 = .ok (.astore 4, 2) := by decide +kernel
theorem d_L_line_15 : decode b_L_line 15 = .ok (.iconst 1, 1) := by decide +kernel
theorem d_L_line_16 : decode b_L_line 16 = .ok (.ireturn, 1) := by decide +kernel
theorem d_L_line_17 : decode b_L_line 17 = .ok (.astore 4, 2) := by decide +kernel
theorem d_L_line_19 : decode b_L_line 19 = .ok (.iconst 2, 1) := by decide +kernel
theorem d_L_line_20 : decode b_L_line 20 = .ok (.ireturn, 1) := by decide +kernel
theorem d_L_line_21 : decode b_L_line 21 = .ok (.iconst 0, 1) := by decide +kernel
theorem d_L_line_22 : decode b_L_line 22 = .ok (.ireturn, 1) := by decide +kernel
theorem d_L_mitre_0 : decode b_L_mitre 0 = .ok (.aload 4, 2) := by decide +kernel
theorem d_L_mitre_2 : decode b_L_mitre 2 = .ok (.iconst 0, 1) := by decide +kernel
theorem d_L_mitre_3 : decode b_L_mitre 3 = .ok (.aload_n 0, 1) := by decide +kernel
theorem d_L_mitre_4 : decode b_L_mitre 4 = .ok (.iload_n 1, 1) := by decide +kernel
theorem d_L_mitre_5 : decode b_L_mitre 5 = .ok (.iload_n 2, 1) := by decide +kernel
theorem d_L_mitre_6 : decode b_L_mitre 6 = .ok (.iload_n 3, 1) := by decide +kernel
theorem d_L_mitre_7 : decode b_L_mitre 7 = .ok (.invokevirtual 75, 3) := by decide +kernel
theorem d_L_mitre_10 : decode b_L_mitre 10 = .ok (.lastore, 1) := by decide +kernel
theorem d_L_mitre_11 : decode b_L_mitre 11 = .ok (.goto 7, 3) := by decide +kernel
theorem d_L_mitre_14 : decode b_L_mitre 14 = .ok (.astore 5, 2) := by decide +kernel
theorem d_L_mitre_16 : decode b_L_mitre 16 = .ok (.iconst 1, 1) := by decide +kernel
theorem d_L_mitre_17 : decode b_L_mitre 17 = .ok (.ireturn, 1) := by decide +kernel
theorem d_L_mitre_18 : decode b_L_mitre 18 = .ok (.iconst 0, 1) := by decide +kernel
theorem d_L_mitre_19 : decode b_L_mitre 19 = .ok (.ireturn, 1) := by decide +kernel
theorem d_L_passes_0 : decode b_L_passes 0 = .ok (.aload 5, 2) := by decide +kernel
theorem d_L_passes_2 : decode b_L_passes 2 = .ok (.iconst 0, 1) := by decide +kernel
theorem d_L_passes_3 : decode b_L_passes 3 = .ok (.aload_n 0, 1) := by decide +kernel
theorem d_L_passes_4 : decode b_L_passes 4 = .ok (.iload_n 1, 1) := by decide +kernel
theorem d_L_passes_5 : decode b_L_passes 5 = .ok (.iload_n 2, 1) := by decide +kernel
theorem d_L_passes_6 : decode b_L_passes 6 = .ok (.iload_n 3, 1) := by decide +kernel
theorem d_L_passes_7 : decode b_L_passes 7 = .ok (.iload 4, 2) := by decide +kernel
theorem d_L_passes_9 : decode b_L_passes 9 = .ok (.invokevirtual 48, 3) := by decide +kernel
theorem d_L_passes_12 : decode b_L_passes 12 = .ok (.i2l, 1) := by decide +kernel
theorem d_L_passes_13 : decode b_L_passes 13 = .ok (.lastore, 1) := by decide +kernel
theorem d_L_passes_14 : decode b_L_passes 14 = .ok (.goto 11, 3) := by decide +kernel
theorem d_L_passes_17 : decode b_L_passes 17 = .ok (.astore 6, 2) := by decide +kernel
theorem d_L_passes_19 : decode b_L_passes 19 = .ok (.iconst 1, 1) := by decide +kernel
theorem d_L_passes_20 : decode b_L_passes 20 = .ok (.ireturn, 1) := by decide +kernel
theorem d_L_passes_21 : decode b_L_passes 21 = .ok (.astore 6, 2) := by decide +kernel
theorem d_L_passes_23 : decode b_L_passes 23 = .ok (.iconst 2, 1) := by decide +kernel
theorem d_L_passes_24 : decode b_L_passes 24 = .ok (.ireturn, 1) := by decide +kernel
theorem d_L_passes_25 : decode b_L_passes 25 = .ok (.iconst 0, 1) := by decide +kernel
theorem d_L_passes_26 : decode b_L_passes 26 = .ok (.ireturn, 1) := by decide +kernel
theorem d_L_radius_0 : decode b_L_radius 0 = .ok (.aload_n 3, 1) := by decide +kernel
theorem d_L_radius_1 : decode b_L_radius 1 = .ok (.iconst 0, 1) := by decide +kernel
theorem d_L_radius_2 : decode b_L_radius 2 = .ok (.aload_n 0, 1) := by decide +kernel
theorem d_L_radius_3 : decode b_L_radius 3 = .ok (.iload_n 1, 1) := by decide +kernel
theorem d_L_radius_4 : decode b_L_radius 4 = .ok (.iload_n 2, 1) := by decide +kernel
theorem d_L_radius_5 : decode b_L_radius 5 = .ok (.invokevirtual 29, 3) := by decide +kernel
theorem d_L_radius_8 : decode b_L_radius 8 = .ok (.i2l, 1) := by decide +kernel
theorem d_L_radius_9 : decode b_L_radius 9 = .ok (.lastore, 1) := by decide +kernel
theorem d_L_radius_10 : decode b_L_radius 10 = .ok (.goto 7, 3) := by decide +kernel
theorem d_L_radius_13 : decode b_L_radius 13 = .ok (.astore 4, 2) := by decide +kernel
theorem d_L_radius_15 : decode b_L_radius 15 = .ok (.iconst 1, 1) := by decide +kernel
theorem d_L_radius_16 : decode b_L_radius 16 = .ok (.ireturn, 1) := by decide +kernel
theorem d_L_radius_17 : decode b_L_radius 17 = .ok (.iconst 0, 1) := by decide +kernel
theorem d_L_radius_18 : decode b_L_radius 18 = .ok (.ireturn, 1) := by decide +kernel
theorem d_L_reached_0 : decode b_L_reached 0 = .ok (.aload 4, 2) := by decide +kernel
theorem d_L_reached_2 : decode b_L_reached 2 = .ok (.iconst 0, 1) := by decide +kernel
theorem d_L_reached_3 : decode b_L_reached 3 = .ok (.aload_n 0, 1) := by decide +kernel
theorem d_L_reached_4 : decode b_L_reached 4 = .ok (.iload_n 1, 1) := by decide +kernel
theorem d_L_reached_5 : decode b_L_reached 5 = .ok (.iload_n 2, 1) := by decide +kernel
theorem d_L_reached_6 : decode b_L_reached 6 = .ok (.iload_n 3, 1) := by decide +kernel
theorem d_L_reached_7 : decode b_L_reached 7 = .ok (.invokevirtual 41, 3) := by decide +kernel
theorem d_L_reached_10 : decode b_L_reached 10 = .ok (.i2l, 1) := by decide +kernel
theorem d_L_reached_11 : decode b_L_reached 11 = .ok (.lastore, 1) := by decide +kernel
theorem d_L_reached_12 : decode b_L_reached 12 = .ok (.goto 7, 3) := by decide +kernel
theorem d_L_reached_15 : decode b_L_reached 15 = .ok (.astore 5, 2) := by decide +kernel
theorem d_L_reached_17 : decode b_L_reached 17 = .ok (.iconst 1, 1) := by decide +kernel
theorem d_L_reached_18 : decode b_L_reached 18 = .ok (.ireturn, 1) := by decide +kernel
theorem d_L_reached_19 : decode b_L_reached 19 = .ok (.iconst 0, 1) := by decide +kernel
theorem d_L_reached_20 : decode b_L_reached 20 = .ok (.ireturn, 1) := by decide +kernel
theorem d_L_ring_0 : decode b_L_ring 0 = .ok (.aload_n 1, 1) := by decide +kernel
theorem d_L_ring_1 : decode b_L_ring 1 = .ok (.iconst 0, 1) := by decide +kernel
theorem d_L_ring_2 : decode b_L_ring 2 = .ok (.aload_n 0, 1) := by decide +kernel
theorem d_L_ring_3 : decode b_L_ring 3 = .ok (.invokevirtual 69, 3) := by decide +kernel
theorem d_L_ring_6 : decode b_L_ring 6 = .ok (.i2l, 1) := by decide +kernel
theorem d_L_ring_7 : decode b_L_ring 7 = .ok (.lastore, 1) := by decide +kernel
theorem d_L_ring_8 : decode b_L_ring 8 = .ok (.goto 6, 3) := by decide +kernel
theorem d_L_ring_11 : decode b_L_ring 11 = .ok (.astore_n 2, 1) := by decide +kernel
theorem d_L_ring_12 : decode b_L_ring 12 = .ok (.iconst 1, 1) := by decide +kernel
theorem d_L_ring_13 : decode b_L_ring 13 = .ok (.ireturn, 1) := by decide +kernel
theorem d_L_ring_14 : decode b_L_ring 14 = .ok (.iconst 0, 1) := by decide +kernel
theorem d_L_ring_15 : decode b_L_ring 15 = .ok (.ireturn, 1) := by decide +kernel
theorem d_L_row_0 : decode b_L_row 0 = .ok (.aload_n 3, 1) := by decide +kernel
theorem d_L_row_1 : decode b_L_row 1 = .ok (.iconst 0, 1) := by decide +kernel
theorem d_L_row_2 : decode b_L_row 2 = .ok (.aload_n 0, 1) := by decide +kernel
theorem d_L_row_3 : decode b_L_row 3 = .ok (.iload_n 1, 1) := by decide +kernel
theorem d_L_row_4 : decode b_L_row 4 = .ok (.iload_n 2, 1) := by decide +kernel
theorem d_L_row_5 : decode b_L_row 5 = .ok (.invokevirtual 97, 3) := by decide +kernel
theorem d_L_row_8 : decode b_L_row 8 = .ok (.i2l, 1) := by decide +kernel
theorem d_L_row_9 : decode b_L_row 9 = .ok (.lastore, 1) := by decide +kernel
theorem d_L_row_10 : decode b_L_row 10 = .ok (.goto 11, 3) := by decide +kernel
theorem d_L_row_13 : decode b_L_row 13 = .ok (.astore 4, 2) := by decide +kernel
theorem d_L_row_15 : decode b_L_row 15 = .ok (.iconst 1, 1) := by decide +kernel
theorem d_L_row_16 : decode b_L_row 16 = .ok (.ireturn, 1) := by decide +kernel
theorem d_L_row_17 : decode b_L_row 17 = .ok (.astore 4, 2) := by decide +kernel
theorem d_L_row_19 : decode b_L_row 19 = .ok (.iconst 2, 1) := by decide +kernel
theorem d_L_row_20 : decode b_L_row 20 = .ok (.ireturn, 1) := by decide +kernel
theorem d_L_row_21 : decode b_L_row 21 = .ok (.iconst 0, 1) := by decide +kernel
theorem d_L_row_22 : decode b_L_row 22 = .ok (.ireturn, 1) := by decide +kernel
theorem d_L_speed_0 : decode b_L_speed 0 = .ok (.aload_n 3, 1) := by decide +kernel
theorem d_L_speed_1 : decode b_L_speed 1 = .ok (.iconst 0, 1) := by decide +kernel
theorem d_L_speed_2 : decode b_L_speed 2 = .ok (.aload_n 0, 1) := by decide +kernel
theorem d_L_speed_3 : decode b_L_speed 3 = .ok (.iload_n 1, 1) := by decide +kernel
theorem d_L_speed_4 : decode b_L_speed 4 = .ok (.iload_n 2, 1) := by decide +kernel
theorem d_L_speed_5 : decode b_L_speed 5 = .ok (.invokevirtual 100, 3) := by decide +kernel
theorem d_L_speed_8 : decode b_L_speed 8 = .ok (.i2l, 1) := by decide +kernel
theorem d_L_speed_9 : decode b_L_speed 9 = .ok (.lastore, 1) := by decide +kernel
theorem d_L_speed_10 : decode b_L_speed 10 = .ok (.goto 11, 3) := by decide +kernel
theorem d_L_speed_13 : decode b_L_speed 13 = .ok (.astore 4, 2) := by decide +kernel
theorem d_L_speed_15 : decode b_L_speed 15 = .ok (.iconst 1, 1) := by decide +kernel
theorem d_L_speed_16 : decode b_L_speed 16 = .ok (.ireturn, 1) := by decide +kernel
theorem d_L_speed_17 : decode b_L_speed 17 = .ok (.astore 4, 2) := by decide +kernel
theorem d_L_speed_19 : decode b_L_speed 19 = .ok (.iconst 2, 1) := by decide +kernel
theorem d_L_speed_20 : decode b_L_speed 20 = .ok (.ireturn, 1) := by decide +kernel
theorem d_L_speed_21 : decode b_L_speed 21 = .ok (.iconst 0, 1) := by decide +kernel
theorem d_L_speed_22 : decode b_L_speed 22 = .ok (.ireturn, 1) := by decide +kernel
theorem d_L_start_0 : decode b_L_start 0 = .ok (.aload_n 0, 1) := by decide +kernel
theorem d_L_start_1 : decode b_L_start 1 = .ok (.iload_n 1, 1) := by decide +kernel
theorem d_L_start_2 : decode b_L_start 2 = .ok (.invokevirtual 7, 3) := by decide +kernel
theorem d_L_start_5 : decode b_L_start 5 = .ok (.goto 6, 3) := by decide +kernel
theorem d_L_start_8 : decode b_L_start 8 = .ok (.astore_n 2, 1) := by decide +kernel
theorem d_L_start_9 : decode b_L_start 9 = .ok (.iconst 1, 1) := by decide +kernel
theorem d_L_start_10 : decode b_L_start 10 = .ok (.ireturn, 1) := by decide +kernel
theorem d_L_start_11 : decode b_L_start 11 = .ok (.iconst 0, 1) := by decide +kernel
theorem d_L_start_12 : decode b_L_start 12 = .ok (.ireturn, 1) := by decide +kernel
theorem d_L_steady_0 : decode b_L_steady 0 = .ok (.aload 4, 2) := by decide +kernel
theorem d_L_steady_2 : decode b_L_steady 2 = .ok (.iconst 0, 1) := by decide +kernel
theorem d_L_steady_3 : decode b_L_steady 3 = .ok (.aload_n 0, 1) := by decide +kernel
theorem d_L_steady_4 : decode b_L_steady 4 = .ok (.iload_n 1, 1) := by decide +kernel
theorem d_L_steady_5 : decode b_L_steady 5 = .ok (.iload_n 2, 1) := by decide +kernel
theorem d_L_steady_6 : decode b_L_steady 6 = .ok (.iload_n 3, 1) := by decide +kernel
theorem d_L_steady_7 : decode b_L_steady 7 = .ok (.invokevirtual 56, 3) := by decide +kernel
theorem d_L_steady_10 : decode b_L_steady 10 = .ok (.i2l, 1) := by decide +kernel
theorem d_L_steady_11 : decode b_L_steady 11 = .ok (.lastore, 1) := by decide +kernel
theorem d_L_steady_12 : decode b_L_steady 12 = .ok (.goto 15, 3) := by decide +kernel
theorem d_L_steady_15 : decode b_L_steady 15 = .ok (.astore 5, 2) := by decide +kernel
theorem d_L_steady_17 : decode b_L_steady 17 = .ok (.iconst 1, 1) := by decide +kernel
theorem d_L_steady_18 : decode b_L_steady 18 = .ok (.ireturn, 1) := by decide +kernel
theorem d_L_steady_19 : decode b_L_steady 19 = .ok (.astore 5, 2) := by decide +kernel
theorem d_L_steady_21 : decode b_L_steady 21 = .ok (.iconst 2, 1) := by decide +kernel
theorem d_L_steady_22 : decode b_L_steady 22 = .ok (.ireturn, 1) := by decide +kernel
theorem d_L_steady_23 : decode b_L_steady 23 = .ok (.astore 5, 2) := by decide +kernel
theorem d_L_steady_25 : decode b_L_steady 25 = .ok (.iconst 3, 1) := by decide +kernel
theorem d_L_steady_26 : decode b_L_steady 26 = .ok (.ireturn, 1) := by decide +kernel
theorem d_L_steady_27 : decode b_L_steady 27 = .ok (.iconst 0, 1) := by decide +kernel
theorem d_L_steady_28 : decode b_L_steady 28 = .ok (.ireturn, 1) := by decide +kernel
theorem d_L_thread_0 : decode b_L_thread 0 = .ok (.aload_n 0, 1) := by decide +kernel
theorem d_L_thread_1 : decode b_L_thread 1 = .ok (.iload_n 1, 1) := by decide +kernel
theorem d_L_thread_2 : decode b_L_thread 2 = .ok (.iload_n 2, 1) := by decide +kernel
theorem d_L_thread_3 : decode b_L_thread 3 = .ok (.invokevirtual 90, 3) := by decide +kernel
theorem d_L_thread_6 : decode b_L_thread 6 = .ok (.goto 6, 3) := by decide +kernel
theorem d_L_thread_9 : decode b_L_thread 9 = .ok (.astore_n 3, 1) := by decide +kernel
theorem d_L_thread_10 : decode b_L_thread 10 = .ok (.iconst 1, 1) := by decide +kernel
theorem d_L_thread_11 : decode b_L_thread 11 = .ok (.ireturn, 1) := by decide +kernel
theorem d_L_thread_12 : decode b_L_thread 12 = .ok (.iconst 0, 1) := by decide +kernel
theorem d_L_thread_13 : decode b_L_thread 13 = .ok (.ireturn, 1) := by decide +kernel
theorem d_L_threadAt_0 : decode b_L_threadAt 0 = .ok (.aload_n 3, 1) := by decide +kernel
theorem d_L_threadAt_1 : decode b_L_threadAt 1 = .ok (.iconst 0, 1) := by decide +kernel
theorem d_L_threadAt_2 : decode b_L_threadAt 2 = .ok (.aload_n 0, 1) := by decide +kernel
theorem d_L_threadAt_3 : decode b_L_threadAt 3 = .ok (.iload_n 1, 1) := by decide +kernel
theorem d_L_threadAt_4 : decode b_L_threadAt 4 = .ok (.iload_n 2, 1) := by decide +kernel
theorem d_L_threadAt_5 : decode b_L_threadAt 5 = .ok (.invokevirtual 94, 3) := by decide +kernel
theorem d_L_threadAt_8 : decode b_L_threadAt 8 = .ok (.lastore, 1) := by decide +kernel
theorem d_L_threadAt_9 : decode b_L_threadAt 9 = .ok (.goto 15, 3) := by decide +kernel
theorem d_L_threadAt_12 : decode b_L_threadAt 12 = .ok (.astore 4, 2) := by decide +kernel
theorem d_L_threadAt_14 : decode b_L_threadAt 14 = .ok (.iconst 1, 1) := by decide +kernel
theorem d_L_threadAt_15 : decode b_L_threadAt 15 = .ok (.ireturn, 1) := by decide +kernel
theorem d_L_threadAt_16 : decode b_L_threadAt 16 = .ok (.astore 4, 2) := by decide +kernel
theorem d_L_threadAt_18 : decode b_L_threadAt 18 = .ok (.iconst 2, 1) := by decide +kernel
theorem d_L_threadAt_19 : decode b_L_threadAt 19 = .ok (.ireturn, 1) := by decide +kernel
theorem d_L_threadAt_20 : decode b_L_threadAt 20 = .ok (.astore 4, 2) := by decide +kernel
theorem d_L_threadAt_22 : decode b_L_threadAt 22 = .ok (.iconst 3, 1) := by decide +kernel
theorem d_L_threadAt_23 : decode b_L_threadAt 23 = .ok (.ireturn, 1) := by decide +kernel
theorem d_L_threadAt_24 : decode b_L_threadAt 24 = .ok (.iconst 0, 1) := by decide +kernel
theorem d_L_threadAt_25 : decode b_L_threadAt 25 = .ok (.ireturn, 1) := by decide +kernel
theorem d_L_tool_0 : decode b_L_tool 0 = .ok (.aload_n 2, 1) := by decide +kernel
theorem d_L_tool_1 : decode b_L_tool 1 = .ok (.iconst 0, 1) := by decide +kernel
theorem d_L_tool_2 : decode b_L_tool 2 = .ok (.aload_n 0, 1) := by decide +kernel
theorem d_L_tool_3 : decode b_L_tool 3 = .ok (.iload_n 1, 1) := by decide +kernel
theorem d_L_tool_4 : decode b_L_tool 4 = .ok (.invokevirtual 37, 3) := by decide +kernel
theorem d_L_tool_7 : decode b_L_tool 7 = .ok (.i2l, 1) := by decide +kernel
theorem d_L_tool_8 : decode b_L_tool 8 = .ok (.lastore, 1) := by decide +kernel
theorem d_L_tool_9 : decode b_L_tool 9 = .ok (.goto 9, 3) := by decide +kernel
theorem d_L_tool_12 : decode b_L_tool 12 = .ok (.astore_n 3, 1) := by decide +kernel
theorem d_L_tool_13 : decode b_L_tool 13 = .ok (.iconst 1, 1) := by decide +kernel
theorem d_L_tool_14 : decode b_L_tool 14 = .ok (.ireturn, 1) := by decide +kernel
theorem d_L_tool_15 : decode b_L_tool 15 = .ok (.astore_n 3, 1) := by decide +kernel
theorem d_L_tool_16 : decode b_L_tool 16 = .ok (.iconst 2, 1) := by decide +kernel
theorem d_L_tool_17 : decode b_L_tool 17 = .ok (.ireturn, 1) := by decide +kernel
theorem d_L_tool_18 : decode b_L_tool 18 = .ok (.iconst 0, 1) := by decide +kernel
theorem d_L_tool_19 : decode b_L_tool 19 = .ok (.ireturn, 1) := by decide +kernel
theorem d_L_turn_0 : decode b_L_turn 0 = .ok (.aload_n 1, 1) := by decide +kernel
theorem d_L_turn_1 : decode b_L_turn 1 = .ok (.iconst 0, 1) := by decide +kernel
theorem d_L_turn_2 : decode b_L_turn 2 = .ok (.aload_n 0, 1) := by decide +kernel
theorem d_L_turn_3 : decode b_L_turn 3 = .ok (.invokevirtual 25, 3) := by decide +kernel
theorem d_L_turn_6 : decode b_L_turn 6 = .ok (.i2l, 1) := by decide +kernel
theorem d_L_turn_7 : decode b_L_turn 7 = .ok (.lastore, 1) := by decide +kernel
theorem d_L_turn_8 : decode b_L_turn 8 = .ok (.goto 6, 3) := by decide +kernel
theorem d_L_turn_11 : decode b_L_turn 11 = .ok (.astore_n 2, 1) := by decide +kernel
theorem d_L_turn_12 : decode b_L_turn 12 = .ok (.iconst 1, 1) := by decide +kernel
theorem d_L_turn_13 : decode b_L_turn 13 = .ok (.ireturn, 1) := by decide +kernel
theorem d_L_turn_14 : decode b_L_turn 14 = .ok (.iconst 0, 1) := by decide +kernel
theorem d_L_turn_15 : decode b_L_turn 15 = .ok (.ireturn, 1) := by decide +kernel
theorem d_L_volume_0 : decode b_L_volume 0 = .ok (.aload_n 3, 1) := by decide +kernel
theorem d_L_volume_1 : decode b_L_volume 1 = .ok (.iconst 0, 1) := by decide +kernel
theorem d_L_volume_2 : decode b_L_volume 2 = .ok (.aload_n 0, 1) := by decide +kernel
theorem d_L_volume_3 : decode b_L_volume 3 = .ok (.iload_n 1, 1) := by decide +kernel
theorem d_L_volume_4 : decode b_L_volume 4 = .ok (.iload_n 2, 1) := by decide +kernel
theorem d_L_volume_5 : decode b_L_volume 5 = .ok (.invokevirtual 59, 3) := by decide +kernel
theorem d_L_volume_8 : decode b_L_volume 8 = .ok (.lastore, 1) := by decide +kernel
theorem d_L_volume_9 : decode b_L_volume 9 = .ok (.goto 7, 3) := by decide +kernel
theorem d_L_volume_12 : decode b_L_volume 12 = .ok (.astore 4, 2) := by decide +kernel
theorem d_L_volume_14 : decode b_L_volume 14 = .ok (.iconst 1, 1) := by decide +kernel
theorem d_L_volume_15 : decode b_L_volume 15 = .ok (.ireturn, 1) := by decide +kernel
theorem d_L_volume_16 : decode b_L_volume 16 = .ok (.iconst 0, 1) := by decide +kernel
theorem d_L_volume_17 : decode b_L_volume 17 = .ok (.ireturn, 1) := by decide +kernel
theorem d_L_wedge_0 : decode b_L_wedge 0 = .ok (.aload 4, 2) := by decide +kernel
theorem d_L_wedge_2 : decode b_L_wedge 2 = .ok (.iconst 0, 1) := by decide +kernel
theorem d_L_wedge_3 : decode b_L_wedge 3 = .ok (.aload_n 0, 1) := by decide +kernel
theorem d_L_wedge_4 : decode b_L_wedge 4 = .ok (.iload_n 1, 1) := by decide +kernel
theorem d_L_wedge_5 : decode b_L_wedge 5 = .ok (.iload_n 2, 1) := by decide +kernel
theorem d_L_wedge_6 : decode b_L_wedge 6 = .ok (.iload_n 3, 1) := by decide +kernel
theorem d_L_wedge_7 : decode b_L_wedge 7 = .ok (.invokevirtual 72, 3) := by decide +kernel
theorem d_L_wedge_10 : decode b_L_wedge 10 = .ok (.i2l, 1) := by decide +kernel
theorem d_L_wedge_11 : decode b_L_wedge 11 = .ok (.lastore, 1) := by decide +kernel
theorem d_L_wedge_12 : decode b_L_wedge 12 = .ok (.goto 15, 3) := by decide +kernel
theorem d_L_wedge_15 : decode b_L_wedge 15 = .ok (.astore 5, 2) := by decide +kernel
theorem d_L_wedge_17 : decode b_L_wedge 17 = .ok (.iconst 1, 1) := by decide +kernel
theorem d_L_wedge_18 : decode b_L_wedge 18 = .ok (.ireturn, 1) := by decide +kernel
theorem d_L_wedge_19 : decode b_L_wedge 19 = .ok (.astore 5, 2) := by decide +kernel
theorem d_L_wedge_21 : decode b_L_wedge 21 = .ok (.iconst 2, 1) := by decide +kernel
theorem d_L_wedge_22 : decode b_L_wedge 22 = .ok (.ireturn, 1) := by decide +kernel
theorem d_L_wedge_23 : decode b_L_wedge 23 = .ok (.astore 5, 2) := by decide +kernel
theorem d_L_wedge_25 : decode b_L_wedge 25 = .ok (.iconst 3, 1) := by decide +kernel
theorem d_L_wedge_26 : decode b_L_wedge 26 = .ok (.ireturn, 1) := by decide +kernel
theorem d_L_wedge_27 : decode b_L_wedge 27 = .ok (.iconst 0, 1) := by decide +kernel
theorem d_L_wedge_28 : decode b_L_wedge 28 = .ok (.ireturn, 1) := by decide +kernel
