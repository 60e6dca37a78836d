theorem d_La_cell_0 : decode b_La_cell 0 = .ok (.iload_n 1, 1) := by decide +kernel
theorem d_La_cell_1 : decode b_La_cell 1 = .ok (.aload_n 0, 1) := by decide +kernel
theorem d_La_cell_2 : decode b_La_cell 2 = .ok (.arraylength, 1) := by decide +kernel
theorem d_La_cell_3 : decode b_La_cell 3 = .ok (.if_icmp .ge 9, 3) := by decide +kernel
theorem d_La_cell_6 : decode b_La_cell 6 = .ok (.aload_n 0, 1) := by decide +kernel
theorem d_La_cell_7 : decode b_La_cell 7 = .ok (.iload_n 1, 1) := by decide +kernel
theorem d_La_cell_8 : decode b_La_cell 8 = .ok (.iaload, 1) := by decide +kernel
theorem d_La_cell_9 : decode b_La_cell 9 = .ok (.goto 4, 3) := by decide +kernel
theorem d_La_cell_12 : decode b_La_cell 12 = .ok (.iconst 0, 1) := by decide +kernel
theorem d_La_cell_13 : decode b_La_cell 13 = .ok (.ireturn, 1) := by decide +kernel
theorem d_La_part_0 : decode b_La_part 0 = .ok (.aload 6, 2) := by decide +kernel
theorem d_La_part_2 : decode b_La_part 2 = .ok (.iconst 0, 1) := by decide +kernel
theorem d_La_part_3 : decode b_La_part 3 = .ok (.aload_n 0, 1) := by decide +kernel
theorem d_La_part_4 : decode b_La_part 4 = .ok (.iload_n 1, 1) := by decide +kernel
theorem d_La_part_5 : decode b_La_part 5 = .ok (.iload_n 2, 1) := by decide +kernel
theorem d_La_part_6 : decode b_La_part 6 = .ok (.iload_n 3, 1) := by decide +kernel
theorem d_La_part_7 : decode b_La_part 7 = .ok (.iload 4, 2) := by decide +kernel
theorem d_La_part_9 : decode b_La_part 9 = .ok (.iload 5, 2) := by decide +kernel
theorem d_La_part_11 : decode b_La_part 11 = .ok (.invokevirtual 7, 3) := by decide +kernel
theorem d_La_part_14 : decode b_La_part 14 = .ok (.i2l, 1) := by decide +kernel
theorem d_La_part_15 : decode b_La_part 15 = .ok (.lastore, 1) := by decide +kernel
theorem d_La_part_16 : decode b_La_part 16 = .ok (.goto 7, 3) := by decide +kernel
theorem d_La_part_19 : decode b_La_part 19 = .ok (.astore 7, 2) := by decide +kernel
theorem d_La_part_21 : decode b_La_part 21 = .ok (.iconst 1, 1) := by decide +kernel
theorem d_La_part_22 : decode b_La_part 22 = .ok (.ireturn, 1) := by decide +kernel
theorem d_La_part_23 : decode b_La_part 23 = .ok (.iconst 0, 1) := by decide +kernel
theorem d_La_part_24 : decode b_La_part 24 = .ok (.ireturn, 1) := by decide +kernel
theorem d_La_pad_0 : decode b_La_pad 0 = .ok (.aload 5, 2) := by decide +kernel
theorem d_La_pad_2 : decode b_La_pad 2 = .ok (.iconst 0, 1) := by decide +kernel
theorem d_La_pad_3 : decode b_La_pad 3 = .ok (.aload_n 0, 1) := by decide +kernel
theorem d_La_pad_4 : decode b_La_pad 4 = .ok (.iload_n 1, 1) := by decide +kernel
theorem d_La_pad_5 : decode b_La_pad 5 = .ok (.iload_n 2, 1) := by decide +kernel
theorem d_La_pad_6 : decode b_La_pad 6 = .ok (.iload_n 3, 1) := by decide +kernel
theorem d_La_pad_7 : decode b_La_pad 7 = .ok (.iload 4, 2) := by decide +kernel
theorem d_La_pad_9 : decode b_La_pad 9 = .ok (.invokevirtual 15, 3) := by decide +kernel
theorem d_La_pad_12 : decode b_La_pad 12 = .ok (.i2l, 1) := by decide +kernel
theorem d_La_pad_13 : decode b_La_pad 13 = .ok (.lastore, 1) := by decide +kernel
theorem d_La_pad_14 : decode b_La_pad 14 = .ok (.goto 15, 3) := by decide +kernel
theorem d_La_pad_17 : decode b_La_pad 17 = .ok (.astore 6, 2) := by decide +kernel
theorem d_La_pad_19 : decode b_La_pad 19 = .ok (.iconst 1, 1) := by decide +kernel
theorem d_La_pad_20 : decode b_La_pad 20 = .ok (.ireturn, 1) := by decide +kernel
theorem d_La_pad_21 : decode b_La_pad 21 = .ok (.astore 6, 2) := by decide +kernel
theorem d_La_pad_23 : decode b_La_pad 23 = .ok (.iconst 2, 1) := by decide +kernel
theorem d_La_pad_24 : decode b_La_pad 24 = .ok (.ireturn, 1) := by decide +kernel
theorem d_La_pad_25 : decode b_La_pad 25 = .ok (.astore 6, 2) := by decide +kernel
theorem d_La_pad_27 : decode b_La_pad 27 = .ok (.iconst 3, 1) := by decide +kernel
theorem d_La_pad_28 : decode b_La_pad 28 = .ok (.ireturn, 1) := by decide +kernel
theorem d_La_pad_29 : decode b_La_pad 29 = .ok (.iconst 0, 1) := by decide +kernel
theorem d_La_pad_30 : decode b_La_pad 30 = .ok (.ireturn, 1) := by decide +kernel
theorem d_La_via_0 : decode b_La_via 0 = .ok (.aload 4, 2) := by decide +kernel
theorem d_La_via_2 : decode b_La_via 2 = .ok (.iconst 0, 1) := by decide +kernel
theorem d_La_via_3 : decode b_La_via 3 = .ok (.aload_n 0, 1) := by decide +kernel
theorem d_La_via_4 : decode b_La_via 4 = .ok (.iload_n 1, 1) := by decide +kernel
theorem d_La_via_5 : decode b_La_via 5 = .ok (.iload_n 2, 1) := by decide +kernel
theorem d_La_via_6 : decode b_La_via 6 = .ok (.iload_n 3, 1) := by decide +kernel
theorem d_La_via_7 : decode b_La_via 7 = .ok (.invokevirtual 23, 3) := by decide +kernel
theorem d_La_via_10 : decode b_La_via 10 = .ok (.i2l, 1) := by decide +kernel
theorem d_La_via_11 : decode b_La_via 11 = .ok (.lastore, 1) := by decide +kernel
theorem d_La_via_12 : decode b_La_via 12 = .ok (.goto 11, 3) := by decide +kernel
theorem d_La_via_15 : decode b_La_via 15 = .ok (.astore 5, 2) := by decide +kernel
theorem d_La_via_17 : decode b_La_via 17 = .ok (.iconst 1, 1) := by decide +kernel
theorem d_La_via_18 : decode b_La_via 18 = .ok (.ireturn, 1) := by decide +kernel
theorem d_La_via_19 : decode b_La_via 19 = .ok (.astore 5, 2) := by decide +kernel
theorem d_La_via_21 : decode b_La_via 21 = .ok (.iconst 2, 1) := by decide +kernel
theorem d_La_via_22 : decode b_La_via 22 = .ok (.ireturn, 1) := by decide +kernel
theorem d_La_via_23 : decode b_La_via 23 = .ok (.iconst 0, 1) := by decide +kernel
theorem d_La_via_24 : decode b_La_via 24 = .ok (.ireturn, 1) := by decide +kernel
theorem d_La_track_0 : decode b_La_track 0 = .ok (.aload 7, 2) := by decide +kernel
theorem d_La_track_2 : decode b_La_track 2 = .ok (.iconst 0, 1) := by decide +kernel
theorem d_La_track_3 : decode b_La_track 3 = .ok (.aload_n 0, 1) := by decide +kernel
theorem d_La_track_4 : decode b_La_track 4 = .ok (.iload_n 1, 1) := by decide +kernel
theorem d_La_track_5 : decode b_La_track 5 = .ok (.iload_n 2, 1) := by decide +kernel
theorem d_La_track_6 : decode b_La_track 6 = .ok (.iload_n 3, 1) := by decide +kernel
theorem d_La_track_7 : decode b_La_track 7 = .ok (.iload 4, 2) := by decide +kernel
theorem d_La_track_9 : decode b_La_track 9 = .ok (.iload 5, 2) := by decide +kernel
theorem d_La_track_11 : decode b_La_track 11 = .ok (.iload 6, 2) := by decide +kernel
theorem d_La_track_13 : decode b_La_track 13 = .ok (.invokevirtual 27, 3) := by decide +kernel
theorem d_La_track_16 : decode b_La_track 16 = .ok (.i2l, 1) := by decide +kernel
theorem d_La_track_17 : decode b_La_track 17 = .ok (.lastore, 1) := by decide +kernel
theorem d_La_track_18 : decode b_La_track 18 = .ok (.goto 11, 3) := by decide +kernel
theorem d_La_track_21 : decode b_La_track 21 = .ok (.astore 8, 2) := by decide +kernel
theorem d_La_track_23 : decode b_La_track 23 = .ok (.iconst 1, 1) := by decide +kernel
theorem d_La_track_24 : decode b_La_track 24 = .ok (.ireturn, 1) := by decide +kernel
theorem d_La_track_25 : decode b_La_track 25 = .ok (.astore 8, 2) := by decide +kernel
theorem d_La_track_27 : decode b_La_track 27 = .ok (.iconst 2, 1) := by decide +kernel
theorem d_La_track_28 : decode b_La_track 28 = .ok (.ireturn, 1) := by decide +kernel
theorem d_La_track_29 : decode b_La_track 29 = .ok (.iconst 0, 1) := by decide +kernel
theorem d_La_track_30 : decode b_La_track 30 = .ok (.ireturn, 1) := by decide +kernel
theorem d_La_plane_0 : decode b_La_plane 0 = .ok (.aload_n 3, 1) := by decide +kernel
theorem d_La_plane_1 : decode b_La_plane 1 = .ok (.iconst 0, 1) := by decide +kernel
theorem d_La_plane_2 : decode b_La_plane 2 = .ok (.aload_n 0, 1) := by decide +kernel
theorem d_La_plane_3 : decode b_La_plane 3 = .ok (.iload_n 1, 1) := by decide +kernel
theorem d_La_plane_4 : decode b_La_plane 4 = .ok (.iload_n 2, 1) := by decide +kernel
theorem d_La_plane_5 : decode b_La_plane 5 = .ok (.invokevirtual 31, 3) := by decide +kernel
theorem d_La_plane_8 : decode b_La_plane 8 = .ok (.i2l, 1) := by decide +kernel
theorem d_La_plane_9 : decode b_La_plane 9 = .ok (.lastore, 1) := by decide +kernel
theorem d_La_plane_10 : decode b_La_plane 10 = .ok (.goto 11, 3) := by decide +kernel
theorem d_La_plane_13 : decode b_La_plane 13 = .ok (.astore 4, 2) := by decide +kernel
theorem d_La_plane_15 : decode b_La_plane 15 = .ok (.iconst 1, 1) := by decide +kernel
theorem d_La_plane_16 : decode b_La_plane 16 = .ok (.ireturn, 1) := by decide +kernel
theorem d_La_plane_17 : decode b_La_plane 17 = .ok (.astore 4, 2) := by decide +kernel
theorem d_La_plane_19 : decode b_La_plane 19 = .ok (.iconst 2, 1) := by decide +kernel
theorem d_La_plane_20 : decode b_La_plane 20 = .ok (.ireturn, 1) := by decide +kernel
theorem d_La_plane_21 : decode b_La_plane 21 = .ok (.iconst 0, 1) := by decide +kernel
theorem d_La_plane_22 : decode b_La_plane 22 = .ok (.ireturn, 1) := by decide +kernel
theorem d_La_move_0 : decode b_La_move 0 = .ok (.aload 4, 2) := by decide +kernel
theorem d_La_move_2 : decode b_La_move 2 = .ok (.iconst 0, 1) := by decide +kernel
theorem d_La_move_3 : decode b_La_move 3 = .ok (.aload_n 0, 1) := by decide +kernel
theorem d_La_move_4 : decode b_La_move 4 = .ok (.iload_n 1, 1) := by decide +kernel
theorem d_La_move_5 : decode b_La_move 5 = .ok (.iload_n 2, 1) := by decide +kernel
theorem d_La_move_6 : decode b_La_move 6 = .ok (.iload_n 3, 1) := by decide +kernel
theorem d_La_move_7 : decode b_La_move 7 = .ok (.invokevirtual 35, 3) := by decide +kernel
theorem d_La_move_10 : decode b_La_move 10 = .ok (.ifCond .eq 7, 3) := by decide +kernel
theorem d_La_move_13 : decode b_La_move 13 = .ok (.lconst 1, 1) := by decide +kernel
theorem d_La_move_14 : decode b_La_move 14 = .ok (.goto 4, 3) := by decide +kernel
theorem d_La_move_17 : decode b_La_move 17 = .ok (.lconst 0, 1) := by decide +kernel
theorem d_La_move_18 : decode b_La_move 18 = .ok (.lastore, 1) := by decide +kernel
theorem d_La_move_19 : decode b_La_move 19 = .ok (.goto 15, 3) := by decide +kernel
theorem d_La_move_22 : decode b_La_move 22 = .ok (.astore 5, 2) := by decide +kernel
theorem d_La_move_24 : decode b_La_move 24 = .ok (.iconst 1, 1) := by decide +kernel
theorem d_La_move_25 : decode b_La_move 25 = .ok (.ireturn, 1) := by decide +kernel
theorem d_La_move_26 : decode b_La_move 26 = .ok (.astore 5, 2) := by decide +kernel
theorem d_La_move_28 : decode b_La_move 28 = .ok (.iconst 2, 1) := by decide +kernel
theorem d_La_move_29 : decode b_La_move 29 = .ok (.ireturn, 1) := by decide +kernel
theorem d_La_move_30 : decode b_La_move 30 = .ok (.astore 5, 2) := by decide +kernel
theorem d_La_move_32 : decode b_La_move 32 = .ok (.iconst 3, 1) := by decide +kernel
theorem d_La_move_33 : decode b_La_move 33 = .ok (.ireturn, 1) := by decide +kernel
theorem d_La_move_34 : decode b_La_move 34 = .ok (.iconst 0, 1) := by decide +kernel
theorem d_La_move_35 : decode b_La_move 35 = .ok (.ireturn, 1) := by decide +kernel
theorem d_La_drop_0 : decode b_La_drop 0 = .ok (.aload_n 2, 1) := by decide +kernel
theorem d_La_drop_1 : decode b_La_drop 1 = .ok (.iconst 0, 1) := by decide +kernel
theorem d_La_drop_2 : decode b_La_drop 2 = .ok (.aload_n 0, 1) := by decide +kernel
theorem d_La_drop_3 : decode b_La_drop 3 = .ok (.iload_n 1, 1) := by decide +kernel
theorem d_La_drop_4 : decode b_La_drop 4 = .ok (.invokevirtual 39, 3) := by decide +kernel
theorem d_La_drop_7 : decode b_La_drop 7 = .ok (.ifCond .eq 7, 3) := by decide +kernel
theorem d_La_drop_10 : decode b_La_drop 10 = .ok (.lconst 1, 1) := by decide +kernel
theorem d_La_drop_11 : decode b_La_drop 11 = .ok (.goto 4, 3) := by decide +kernel
theorem d_La_drop_14 : decode b_La_drop 14 = .ok (.lconst 0, 1) := by decide +kernel
theorem d_La_drop_15 : decode b_La_drop 15 = .ok (.lastore, 1) := by decide +kernel
theorem d_La_drop_16 : decode b_La_drop 16 = .ok (.goto 12, 3) := by decide +kernel
theorem d_La_drop_19 : decode b_La_drop 19 = .ok (.astore_n 3, 1) := by decide +kernel
theorem d_La_drop_20 : decode b_La_drop 20 = .ok (.iconst 1, 1) := by decide +kernel
theorem d_La_drop_21 : decode b_La_drop 21 = .ok (.ireturn, 1) := by decide +kernel
theorem d_La_drop_22 : decode b_La_drop 22 = .ok (.astore_n 3, 1) := by decide +kernel
theorem d_La_drop_23 : decode b_La_drop 23 = .ok (.iconst 2, 1) := by decide +kernel
theorem d_La_drop_24 : decode b_La_drop 24 = .ok (.ireturn, 1) := by decide +kernel
theorem d_La_drop_25 : decode b_La_drop 25 = .ok (.astore_n 3, 1) := by decide +kernel
theorem d_La_drop_26 : decode b_La_drop 26 = .ok (.iconst 3, 1) := by decide +kernel
theorem d_La_drop_27 : decode b_La_drop 27 = .ok (.ireturn, 1) := by decide +kernel
theorem d_La_drop_28 : decode b_La_drop 28 = .ok (.iconst 0, 1) := by decide +kernel
theorem d_La_drop_29 : decode b_La_drop 29 = .ok (.ireturn, 1) := by decide +kernel
theorem d_La_gap_0 : decode b_La_gap 0 = .ok (.aload_n 2, 1) := by decide +kernel
theorem d_La_gap_1 : decode b_La_gap 1 = .ok (.iconst 0, 1) := by decide +kernel
theorem d_La_gap_2 : decode b_La_gap 2 = .ok (.aload_n 0, 1) := by decide +kernel
theorem d_La_gap_3 : decode b_La_gap 3 = .ok (.iload_n 1, 1) := by decide +kernel
theorem d_La_gap_4 : decode b_La_gap 4 = .ok (.invokevirtual 43, 3) := by decide +kernel
theorem d_La_gap_7 : decode b_La_gap 7 = .ok (.i2l, 1) := by decide +kernel
theorem d_La_gap_8 : decode b_La_gap 8 = .ok (.lastore, 1) := by decide +kernel
theorem d_La_gap_9 : decode b_La_gap 9 = .ok (.goto 6, 3) := by decide +kernel
theorem d_La_gap_12 : decode b_La_gap 12 = .ok (.astore_n 3, 1) := by decide +kernel
theorem d_La_gap_13 : decode b_La_gap 13 = .ok (.iconst 1, 1) := by decide +kernel
theorem d_La_gap_14 : decode b_La_gap 14 = .ok (.ireturn, 1) := by decide +kernel
theorem d_La_gap_15 : decode b_La_gap 15 = .ok (.iconst 0, 1) := by decide +kernel
theorem d_La_gap_16 : decode b_La_gap 16 = .ok (.ireturn, 1) := by decide +kernel
theorem d_La_islands_0 : decode b_La_islands 0 = .ok (.aload_n 2, 1) := by decide +kernel
theorem d_La_islands_1 : decode b_La_islands 1 = .ok (.iconst 0, 1) := by decide +kernel
theorem d_La_islands_2 : decode b_La_islands 2 = .ok (.aload_n 0, 1) := by decide +kernel
theorem d_La_islands_3 : decode b_La_islands 3 = .ok (.iload_n 1, 1) := by decide +kernel
theorem d_La_islands_4 : decode b_La_islands 4 = .ok (.invokevirtual 47, 3) := by decide +kernel
theorem d_La_islands_7 : decode b_La_islands 7 = .ok (.i2l, 1) := by decide +kernel
theorem d_La_islands_8 : decode b_La_islands 8 = .ok (.lastore, 1) := by decide +kernel
theorem d_La_islands_9 : decode b_La_islands 9 = .ok (.goto 9, 3) := by decide +kernel
theorem d_La_islands_12 : decode b_La_islands 12 = .ok (.astore_n 3, 1) := by decide +kernel
theorem d_La_islands_13 : decode b_La_islands 13 = .ok (.iconst 1, 1) := by decide +kernel
theorem d_La_islands_14 : decode b_La_islands 14 = .ok (.ireturn, 1) := by decide +kernel
theorem d_La_islands_15 : decode b_La_islands 15 = .ok (.astore_n 3, 1) := by decide +kernel
theorem d_La_islands_16 : decode b_La_islands 16 = .ok (.iconst 2, 1) := by decide +kernel
theorem d_La_islands_17 : decode b_La_islands 17 = .ok (.ireturn, 1) := by decide +kernel
theorem d_La_islands_18 : decode b_La_islands 18 = .ok (.iconst 0, 1) := by decide +kernel
theorem d_La_islands_19 : decode b_La_islands 19 = .ok (.ireturn, 1) := by decide +kernel
theorem d_La_near_0 : decode b_La_near 0 = .ok (.aload_n 3, 1) := by decide +kernel
theorem d_La_near_1 : decode b_La_near 1 = .ok (.iconst 0, 1) := by decide +kernel
theorem d_La_near_2 : decode b_La_near 2 = .ok (.aload_n 0, 1) := by decide +kernel
theorem d_La_near_3 : decode b_La_near 3 = .ok (.iload_n 1, 1) := by decide +kernel
theorem d_La_near_4 : decode b_La_near 4 = .ok (.iload_n 2, 1) := by decide +kernel
theorem d_La_near_5 : decode b_La_near 5 = .ok (.invokevirtual 50, 3) := by decide +kernel
theorem d_La_near_8 : decode b_La_near 8 = .ok (.i2l, 1) := by decide +kernel
theorem d_La_near_9 : decode b_La_near 9 = .ok (.lastore, 1) := by decide +kernel
theorem d_La_near_10 : decode b_La_near 10 = .ok (.goto 7, 3) := by decide +kernel
theorem d_La_near_13 : decode b_La_near 13 = .ok (.astore 4, 2) := by decide +kernel
theorem d_La_near_15 : decode b_La_near 15 = .ok (.iconst 1, 1) := by decide +kernel
theorem d_La_near_16 : decode b_La_near 16 = .ok (.ireturn, 1) := by decide +kernel
theorem d_La_near_17 : decode b_La_near 17 = .ok (.iconst 0, 1) := by decide +kernel
theorem d_La_near_18 : decode b_La_near 18 = .ok (.ireturn, 1) := by decide +kernel
theorem d_La_filled_0 : decode b_La_filled 0 = .ok (.aload_n 2, 1) := by decide +kernel
theorem d_La_filled_1 : decode b_La_filled 1 = .ok (.iconst 0, 1) := by decide +kernel
theorem d_La_filled_2 : decode b_La_filled 2 = .ok (.aload_n 0, 1) := by decide +kernel
theorem d_La_filled_3 : decode b_La_filled 3 = .ok (.iload_n 1, 1) := by decide +kernel
theorem d_La_filled_4 : decode b_La_filled 4 = .ok (.invokevirtual 53, 3) := by decide +kernel
theorem d_La_filled_7 : decode b_La_filled 7 = .ok (.i2l, 1) := by decide +kernel
theorem d_La_filled_8 : decode b_La_filled 8 = .ok (.lastore, 1) := by decide +kernel
theorem d_La_filled_9 : decode b_La_filled 9 = .ok (.goto 12, 3) := by decide +kernel
theorem d_La_filled_12 : decode b_La_filled 12 = .ok (.astore_n 3, 1) := by decide +kernel
theorem d_La_filled_13 : decode b_La_filled 13 = .ok (.iconst 1, 1) := by decide +kernel
theorem d_La_filled_14 : decode b_La_filled 14 = .ok (.ireturn, 1) := by decide +kernel
theorem d_La_filled_15 : decode b_La_filled 15 = .ok (.astore_n 3, 1) := by decide +kernel
theorem d_La_filled_16 : decode b_La_filled 16 = .ok (.iconst 2, 1) := by decide +kernel
theorem d_La_filled_17 : decode b_La_filled 17 = .ok (.ireturn, 1) := by decide +kernel
theorem d_La_filled_18 : decode b_La_filled 18 = .ok (.astore_n 3, 1) := by decide +kernel
theorem d_La_filled_19 : decode b_La_filled 19 = .ok (.iconst 3, 1) := by decide +kernel
theorem d_La_filled_20 : decode b_La_filled 20 = .ok (.ireturn, 1) := by decide +kernel
theorem d_La_filled_21 : decode b_La_filled 21 = .ok (.iconst 0, 1) := by decide +kernel
theorem d_La_filled_22 : decode b_La_filled 22 = .ok (.ireturn, 1) := by decide +kernel
theorem d_La_at_0 : decode b_La_at 0 = .ok (.aload_n 3, 1) := by decide +kernel
theorem d_La_at_1 : decode b_La_at 1 = .ok (.iconst 0, 1) := by decide +kernel
theorem d_La_at_2 : decode b_La_at 2 = .ok (.aload_n 0, 1) := by decide +kernel
theorem d_La_at_3 : decode b_La_at 3 = .ok (.iload_n 1, 1) := by decide +kernel
theorem d_La_at_4 : decode b_La_at 4 = .ok (.iload_n 2, 1) := by decide +kernel
theorem d_La_at_5 : decode b_La_at 5 = .ok (.invokevirtual 56, 3) := by decide +kernel
theorem d_La_at_8 : decode b_La_at 8 = .ok (.i2l, 1) := by decide +kernel
theorem d_La_at_9 : decode b_La_at 9 = .ok (.lastore, 1) := by decide +kernel
theorem d_La_at_10 : decode b_La_at 10 = .ok (.goto 11, 3) := by decide +kernel
theorem d_La_at_13 : decode b_La_at 13 = .ok (.astore 4, 2) := by decide +kernel
theorem d_La_at_15 : decode b_La_at 15 = .ok (.iconst 1, 1) := by decide +kernel
theorem d_La_at_16 : decode b_La_at 16 = .ok (.ireturn, 1) := by decide +kernel
theorem d_La_at_17 : decode b_La_at 17 = .ok (.astore 4, 2) := by decide +kernel
theorem d_La_at_19 : decode b_La_at 19 = .ok (.iconst 2, 1) := by decide +kernel
theorem d_La_at_20 : decode b_La_at 20 = .ok (.ireturn, 1) := by decide +kernel
theorem d_La_at_21 : decode b_La_at 21 = .ok (.iconst 0, 1) := by decide +kernel
theorem d_La_at_22 : decode b_La_at 22 = .ok (.ireturn, 1) := by decide +kernel
theorem d_La_count_0 : decode b_La_count 0 = .ok (.aload_n 2, 1) := by decide +kernel
theorem d_La_count_1 : decode b_La_count 1 = .ok (.iconst 0, 1) := by decide +kernel
theorem d_La_count_2 : decode b_La_count 2 = .ok (.aload_n 0, 1) := by decide +kernel
theorem d_La_count_3 : decode b_La_count 3 = .ok (.iload_n 1, 1) := by decide +kernel
theorem d_La_count_4 : decode b_La_count 4 = .ok (.invokevirtual 59, 3) := by decide +kernel
theorem d_La_count_7 : decode b_La_count 7 = .ok (.i2l, 1) := by decide +kernel
theorem d_La_count_8 : decode b_La_count 8 = .ok (.lastore, 1) := by decide +kernel
theorem d_La_count_9 : decode b_La_count 9 = .ok (.goto 6, 3) := by decide +kernel
theorem d_La_count_12 : decode b_La_count 12 = .ok (.astore_n 3, 1) := by decide +kernel
theorem d_La_count_13 : decode b_La_count 13 = .ok (.iconst 1, 1) := by decide +kernel
theorem d_La_count_14 : decode b_La_count 14 = .ok (.ireturn, 1) := by decide +kernel
theorem d_La_count_15 : decode b_La_count 15 = .ok (.iconst 0, 1) := by decide +kernel
theorem d_La_count_16 : decode b_La_count 16 = .ok (.ireturn, 1) := by decide +kernel
theorem d_La_work_0 : decode b_La_work 0 = .ok (.aload_n 2, 1) := by decide +kernel
theorem d_La_work_1 : decode b_La_work 1 = .ok (.iconst 0, 1) := by decide +kernel
theorem d_La_work_2 : decode b_La_work 2 = .ok (.aload_n 0, 1) := by decide +kernel
theorem d_La_work_3 : decode b_La_work 3 = .ok (.iload_n 1, 1) := by decide +kernel
theorem d_La_work_4 : decode b_La_work 4 = .ok (.invokevirtual 62, 3) := by decide +kernel
theorem d_La_work_7 : decode b_La_work 7 = .ok (.ifCond .eq 7, 3) := by decide +kernel
theorem d_La_work_10 : decode b_La_work 10 = .ok (.lconst 1, 1) := by decide +kernel
theorem d_La_work_11 : decode b_La_work 11 = .ok (.goto 4, 3) := by decide +kernel
theorem d_La_work_14 : decode b_La_work 14 = .ok (.lconst 0, 1) := by decide +kernel
theorem d_La_work_15 : decode b_La_work 15 = .ok (.lastore, 1) := by decide +kernel
theorem d_La_work_16 : decode b_La_work 16 = .ok (.goto 12, 3) := by decide +kernel
theorem d_La_work_19 : decode b_La_work 19 = .ok (.astore_n 3, 1) := by decide +kernel
theorem d_La_work_20 : decode b_La_work 20 = .ok (.iconst 1, 1) := by decide +kernel
theorem d_La_work_21 : decode b_La_work 21 = .ok (.ireturn, 1) := by decide +kernel
theorem d_La_work_22 : decode b_La_work 22 = .ok (.astore_n 3, 1) := by decide +kernel
theorem d_La_work_23 : decode b_La_work 23 = .ok (.iconst 2, 1) := by decide +kernel
theorem d_La_work_24 : decode b_La_work 24 = .ok (.ireturn, 1) := by decide +kernel
theorem d_La_work_25 : decode b_La_work 25 = .ok (.astore_n 3, 1) := by decide +kernel
theorem d_La_work_26 : decode b_La_work 26 = .ok (.iconst 3, 1) := by decide +kernel
theorem d_La_work_27 : decode b_La_work 27 = .ok (.ireturn, 1) := by decide +kernel
theorem d_La_work_28 : decode b_La_work 28 = .ok (.iconst 0, 1) := by decide +kernel
theorem d_La_work_29 : decode b_La_work 29 = .ok (.ireturn, 1) := by decide +kernel
theorem d_La_end_0 : decode b_La_end 0 = .ok (.aload_n 3, 1) := by decide +kernel
theorem d_La_end_1 : decode b_La_end 1 = .ok (.iconst 0, 1) := by decide +kernel
theorem d_La_end_2 : decode b_La_end 2 = .ok (.aload_n 0, 1) := by decide +kernel
theorem d_La_end_3 : decode b_La_end 3 = .ok (.iload_n 1, 1) := by decide +kernel
theorem d_La_end_4 : decode b_La_end 4 = .ok (.iload_n 2, 1) := by decide +kernel
theorem d_La_end_5 : decode b_La_end 5 = .ok (.invokevirtual 65, 3) := by decide +kernel
theorem d_La_end_8 : decode b_La_end 8 = .ok (.i2l, 1) := by decide +kernel
theorem d_La_end_9 : decode b_La_end 9 = .ok (.lastore, 1) := by decide +kernel
theorem d_La_end_10 : decode b_La_end 10 = .ok (.goto 15, 3) := by decide +kernel
theorem d_La_end_13 : decode b_La_end 13 = .ok (.astore 4, 2) := by decide +kernel
theorem d_La_end_15 : decode b_La_end 15 = .ok (.iconst 1, 1) := by decide +kernel
theorem d_La_end_16 : decode b_La_end 16 = .ok (.ireturn, 1) := by decide +kernel
theorem d_La_end_17 : decode b_La_end 17 = .ok (.astore 4, 2) := by decide +kernel
theorem d_La_end_19 : decode b_La_end 19 = .ok (.iconst 2, 1) := by decide +kernel
theorem d_La_end_20 : decode b_La_end 20 = .ok (.ireturn, 1) := by decide +kernel
theorem d_La_end_21 : decode b_La_end 21 = .ok (.astore 4, 2) := by decide +kernel
theorem d_La_end_23 : decode b_La_end 23 = .ok (.iconst 3, 1) := by decide +kernel
theorem d_La_end_24 : decode b_La_end 24 = .ok (.ireturn, 1) := by decide +kernel
theorem d_La_end_25 : decode b_La_end 25 = .ok (.iconst 0, 1) := by decide +kernel
theorem d_La_end_26 : decode b_La_end 26 = .ok (.ireturn, 1) := by decide +kernel
theorem d_La_version_0 : decode b_La_version 0 = .ok (.aload_n 1, 1) := by decide +kernel
theorem d_La_version_1 : decode b_La_version 1 = .ok (.iconst 0, 1) := by decide +kernel
theorem d_La_version_2 : decode b_La_version 2 = .ok (.aload_n 0, 1) := by decide +kernel
theorem d_La_version_3 : decode b_La_version 3 = .ok (.invokevirtual 69, 3) := by decide +kernel
theorem d_La_version_6 : decode b_La_version 6 = .ok (.i2l, 1) := by decide +kernel
theorem d_La_version_7 : decode b_La_version 7 = .ok (.lastore, 1) := by decide +kernel
theorem d_La_version_8 : decode b_La_version 8 = .ok (.goto 6, 3) := by decide +kernel
theorem d_La_version_11 : decode b_La_version 11 = .ok (.astore_n 2, 1) := by decide +kernel
theorem d_La_version_12 : decode b_La_version 12 = .ok (.iconst 1, 1) := by decide +kernel
theorem d_La_version_13 : decode b_La_version 13 = .ok (.ireturn, 1) := by decide +kernel
theorem d_La_version_14 : decode b_La_version 14 = .ok (.iconst 0, 1) := by decide +kernel
theorem d_La_version_15 : decode b_La_version 15 = .ok (.ireturn, 1) := by decide +kernel
theorem d_La_back_0 : decode b_La_back 0 = .ok (.aload_n 2, 1) := by decide +kernel
theorem d_La_back_1 : decode b_La_back 1 = .ok (.iconst 0, 1) := by decide +kernel
theorem d_La_back_2 : decode b_La_back 2 = .ok (.aload_n 0, 1) := by decide +kernel
theorem d_La_back_3 : decode b_La_back 3 = .ok (.iload_n 1, 1) := by decide +kernel
theorem d_La_back_4 : decode b_La_back 4 = .ok (.invokevirtual 73, 3) := by decide +kernel
theorem d_La_back_7 : decode b_La_back 7 = .ok (.i2l, 1) := by decide +kernel
theorem d_La_back_8 : decode b_La_back 8 = .ok (.lastore, 1) := by decide +kernel
theorem d_La_back_9 : decode b_La_back 9 = .ok (.goto 12, 3) := by decide +kernel
theorem d_La_back_12 : decode b_La_back 12 = .ok (.astore_n 3, 1) := by decide +kernel
theorem d_La_back_13 : decode b_La_back 13 = .ok (.iconst 1, 1) := by decide +kernel
theorem d_La_back_14 : decode b_La_back 14 = .ok (.ireturn, 1) := by decide +kernel
theorem d_La_back_15 : decode b_La_back 15 = .ok (.astore_n 3, 1) := by decide +kernel
theorem d_La_back_16 : decode b_La_back 16 = .ok (.iconst 2, 1) := by decide +kernel
theorem d_La_back_17 : decode b_La_back 17 = .ok (.ireturn, 1) := by decide +kernel
theorem d_La_back_18 : decode b_La_back 18 = .ok (.astore_n 3, 1) := by decide +kernel
theorem d_La_back_19 : decode b_La_back 19 = .ok (.iconst 3, 1) := by decide +kernel
theorem d_La_back_20 : decode b_La_back 20 = .ok (.ireturn, 1) := by decide +kernel
theorem d_La_back_21 : decode b_La_back 21 = .ok (.iconst 0, 1) := by decide +kernel
theorem d_La_back_22 : decode b_La_back 22 = .ok (.ireturn, 1) := by decide +kernel
theorem d_La_law_0 : decode b_La_law 0 = .ok (.new 8, 3) := by decide +kernel
theorem d_La_law_3 : decode b_La_law 3 = .ok (.dup, 1) := by decide +kernel
theorem d_La_law_4 : decode b_La_law 4 = .ok (.aload_n 0, 1) := by decide +kernel
theorem d_La_law_5 : decode b_La_law 5 = .ok (.iconst 0, 1) := by decide +kernel
theorem d_La_law_6 : decode b_La_law 6 = .ok (.invokestatic 76, 3) := by decide +kernel
theorem d_La_law_9 : decode b_La_law 9 = .ok (.aload_n 0, 1) := by decide +kernel
theorem d_La_law_10 : decode b_La_law 10 = .ok (.iconst 1, 1) := by decide +kernel
theorem d_La_law_11 : decode b_La_law 11 = .ok (.invokestatic 76, 3) := by decide +kernel
theorem d_La_law_14 : decode b_La_law 14 = .ok (.invokespecial 82, 3) := by decide +kernel
theorem d_La_law_17 : decode b_La_law 17 = .ok (.astore_n 1, 1) := by decide +kernel
theorem d_La_law_18 : decode b_La_law 18 = .ok (.new 85, 3) := by decide +kernel
theorem d_La_law_21 : decode b_La_law 21 = .ok (.dup, 1) := by decide +kernel
theorem d_La_law_22 : decode b_La_law 22 = .ok (.aload_n 0, 1) := by decide +kernel
theorem d_La_law_23 : decode b_La_law 23 = .ok (.iconst 0, 1) := by decide +kernel
theorem d_La_law_24 : decode b_La_law 24 = .ok (.invokestatic 76, 3) := by decide +kernel
theorem d_La_law_27 : decode b_La_law 27 = .ok (.aload_n 0, 1) := by decide +kernel
theorem d_La_law_28 : decode b_La_law 28 = .ok (.iconst 1, 1) := by decide +kernel
theorem d_La_law_29 : decode b_La_law 29 = .ok (.invokestatic 76, 3) := by decide +kernel
theorem d_La_law_32 : decode b_La_law 32 = .ok (.invokespecial 87, 3) := by decide +kernel
theorem d_La_law_35 : decode b_La_law 35 = .ok (.astore_n 2, 1) := by decide +kernel
theorem d_La_law_36 : decode b_La_law 36 = .ok (.iconst 1, 1) := by decide +kernel
theorem d_La_law_37 : decode b_La_law 37 = .ok (.newarray .long, 2) := by decide +kernel
theorem d_La_law_39 : decode b_La_law 39 = .ok (.astore_n 3, 1) := by decide +kernel
theorem d_La_law_40 : decode b_La_law 40 = .ok (.iconst 2, 1) := by decide +kernel
theorem d_La_law_41 : decode b_La_law 41 = .ok (.istore 4, 2) := by decide +kernel
theorem d_La_law_43 : decode b_La_law 43 = .ok (.iload 4, 2) := by decide +kernel
theorem d_La_law_45 : decode b_La_law 45 = .ok (.aload_n 0, 1) := by decide +kernel
theorem d_La_law_46 : decode b_La_law 46 = .ok (.arraylength, 1) := by decide +kernel
theorem d_La_law_47 : decode b_La_law 47 = .ok (.bipush 7, 2) := by decide +kernel
theorem d_La_law_49 : decode b_La_law 49 = .ok (.isub, 1) := by decide +kernel
theorem d_La_law_50 : decode b_La_law 50 = .ok (.if_icmp .gt 1435, 3) := by decide +kernel
theorem d_La_law_53 : decode b_La_law 53 = .ok (.aload_n 0, 1) := by decide +kernel
theorem d_La_law_54 : decode b_La_law 54 = .ok (.iload 4, 2) := by decide +kernel
theorem d_La_law_56 : decode b_La_law 56 = .ok (.iaload, 1) := by decide +kernel
theorem d_La_law_57 : decode b_La_law 57 = .ok (.bipush 31, 2) := by decide +kernel
theorem d_La_law_59 : decode b_La_law 59 = .ok (.iand, 1) := by decide +kernel
theorem d_La_law_60 : decode b_La_law 60 = .ok (.tableswitch 1419 0 20 #[100, 113, 217, 309, 389, 507, 575, 662, 725, 781, 837, 850, 918, 974, 1042, 1098, 1159, 1222, 1306, 1350, 1406], 100) := by decide +kernel
theorem d_La_law_160 : decode b_La_law 160 = .ok (.aload_n 1, 1) := by decide +kernel
theorem d_La_law_161 : decode b_La_law 161 = .ok (.invokevirtual 88, 3) := by decide +kernel
theorem d_La_law_164 : decode b_La_law 164 = .ok (.aload_n 2, 1) := by decide +kernel
theorem d_La_law_165 : decode b_La_law 165 = .ok (.invokevirtual 91, 3) := by decide +kernel
theorem d_La_law_168 : decode b_La_law 168 = .ok (.if_icmp .eq 1311, 3) := by decide +kernel
theorem d_La_law_171 : decode b_La_law 171 = .ok (.iconst 0, 1) := by decide +kernel
theorem d_La_law_172 : decode b_La_law 172 = .ok (.ireturn, 1) := by decide +kernel
theorem d_La_law_173 : decode b_La_law 173 = .ok (.aload_n 1, 1) := by decide +kernel
theorem d_La_law_174 : decode b_La_law 174 = .ok (.aload_n 0, 1) := by decide +kernel
theorem d_La_law_175 : decode b_La_law 175 = .ok (.iload 4, 2) := by decide +kernel
theorem d_La_law_177 : decode b_La_law 177 = .ok (.iconst 1, 1) := by decide +kernel
theorem d_La_law_178 : decode b_La_law 178 = .ok (.iadd, 1) := by decide +kernel
theorem d_La_law_179 : decode b_La_law 179 = .ok (.iaload, 1) := by decide +kernel
theorem d_La_law_180 : decode b_La_law 180 = .ok (.aload_n 0, 1) := by decide +kernel
theorem d_La_law_181 : decode b_La_law 181 = .ok (.iload 4, 2) := by decide +kernel
theorem d_La_law_183 : decode b_La_law 183 = .ok (.iconst 2, 1) := by decide +kernel
theorem d_La_law_184 : decode b_La_law 184 = .ok (.iadd, 1) := by decide +kernel
theorem d_La_law_185 : decode b_La_law 185 = .ok (.iaload, 1) := by decide +kernel
theorem d_La_law_186 : decode b_La_law 186 = .ok (.aload_n 0, 1) := by decide +kernel
theorem d_La_law_187 : decode b_La_law 187 = .ok (.iload 4, 2) := by decide +kernel
theorem d_La_law_189 : decode b_La_law 189 = .ok (.iconst 3, 1) := by decide +kernel
theorem d_La_law_190 : decode b_La_law 190 = .ok (.iadd, 1) := by decide +kernel
theorem d_La_law_191 : decode b_La_law 191 = .ok (.iaload, 1) := by decide +kernel
theorem d_La_law_192 : decode b_La_law 192 = .ok (.aload_n 0, 1) := by decide +kernel
theorem d_La_law_193 : decode b_La_law 193 = .ok (.iload 4, 2) := by decide +kernel
theorem d_La_law_195 : decode b_La_law 195 = .ok (.iconst 4, 1) := by decide +kernel
theorem d_La_law_196 : decode b_La_law 196 = .ok (.iadd, 1) := by decide +kernel
theorem d_La_law_197 : decode b_La_law 197 = .ok (.iaload, 1) := by decide +kernel
theorem d_La_law_198 : decode b_La_law 198 = .ok (.aload_n 0, 1) := by decide +kernel
theorem d_La_law_199 : decode b_La_law 199 = .ok (.iload 4, 2) := by decide +kernel
theorem d_La_law_201 : decode b_La_law 201 = .ok (.iconst 5, 1) := by decide +kernel
theorem d_La_law_202 : decode b_La_law 202 = .ok (.iadd, 1) := by decide +kernel
theorem d_La_law_203 : decode b_La_law 203 = .ok (.iaload, 1) := by decide +kernel
theorem d_La_law_204 : decode b_La_law 204 = .ok (.aload_n 3, 1) := by decide +kernel
theorem d_La_law_205 : decode b_La_law 205 = .ok (.invokestatic 92, 3) := by decide +kernel
theorem d_La_law_208 : decode b_La_law 208 = .ok (.istore 5, 2) := by decide +kernel
theorem d_La_law_210 : decode b_La_law 210 = .ok (.aload_n 2, 1) := by decide +kernel
theorem d_La_law_211 : decode b_La_law 211 = .ok (.aload_n 0, 1) := by decide +kernel
theorem d_La_law_212 : decode b_La_law 212 = .ok (.iload 4, 2) := by decide +kernel
theorem d_La_law_214 : decode b_La_law 214 = .ok (.iconst 1, 1) := by decide +kernel
theorem d_La_law_215 : decode b_La_law 215 = .ok (.iadd, 1) := by decide +kernel
theorem d_La_law_216 : decode b_La_law 216 = .ok (.iaload, 1) := by decide +kernel
theorem d_La_law_217 : decode b_La_law 217 = .ok (.aload_n 0, 1) := by decide +kernel
theorem d_La_law_218 : decode b_La_law 218 = .ok (.iload 4, 2) := by decide +kernel
theorem d_La_law_220 : decode b_La_law 220 = .ok (.iconst 2, 1) := by decide +kernel
theorem d_La_law_221 : decode b_La_law 221 = .ok (.iadd, 1) := by decide +kernel
theorem d_La_law_222 : decode b_La_law 222 = .ok (.iaload, 1) := by decide +kernel
theorem d_La_law_223 : decode b_La_law 223 = .ok (.aload_n 0, 1) := by decide +kernel
theorem d_La_law_224 : decode b_La_law 224 = .ok (.iload 4, 2) := by decide +kernel
theorem d_La_law_226 : decode b_La_law 226 = .ok (.iconst 3, 1) := by decide +kernel
theorem d_La_law_227 : decode b_La_law 227 = .ok (.iadd, 1) := by decide +kernel
theorem d_La_law_228 : decode b_La_law 228 = .ok (.iaload, 1) := by decide +kernel
theorem d_La_law_229 : decode b_La_law 229 = .ok (.aload_n 0, 1) := by decide +kernel
theorem d_La_law_230 : decode b_La_law 230 = .ok (.iload 4, 2) := by decide +kernel
theorem d_La_law_232 : decode b_La_law 232 = .ok (.iconst 4, 1) := by decide +kernel
theorem d_La_law_233 : decode b_La_law 233 = .ok (.iadd, 1) := by decide +kernel
theorem d_La_law_234 : decode b_La_law 234 = .ok (.iaload, 1) := by decide +kernel
theorem d_La_law_235 : decode b_La_law 235 = .ok (.aload_n 0, 1) := by decide +kernel
theorem d_La_law_236 : decode b_La_law 236 = .ok (.iload 4, 2) := by decide +kernel
theorem d_La_law_238 : decode b_La_law 238 = .ok (.iconst 5, 1) := by decide +kernel
theorem d_La_law_239 : decode b_La_law 239 = .ok (.iadd, 1) := by decide +kernel
theorem d_La_law_240 : decode b_La_law 240 = .ok (.iaload, 1) := by decide +kernel
theorem d_La_law_241 : decode b_La_law 241 = .ok (.invokevirtual 95, 3) := by decide +kernel
theorem d_La_law_244 : decode b_La_law 244 = .ok (.istore 6, 2) := by decide +kernel
theorem d_La_law_246 : decode b_La_law 246 = .ok (.aload_n 2, 1) := by decide +kernel
theorem d_La_law_247 : decode b_La_law 247 = .ok (.invokevirtual 96, 3) := by decide +kernel
theorem d_La_law_250 : decode b_La_law 250 = .ok (.iload 5, 2) := by decide +kernel
theorem d_La_law_252 : decode b_La_law 252 = .ok (.if_icmp .eq 5, 3) := by decide +kernel
theorem d_La_law_255 : decode b_La_law 255 = .ok (.iconst 0, 1) := by decide +kernel
theorem d_La_law_256 : decode b_La_law 256 = .ok (.ireturn, 1) := by decide +kernel
theorem d_La_law_257 : decode b_La_law 257 = .ok (.iload 5, 2) := by decide +kernel
theorem d_La_law_259 : decode b_La_law 259 = .ok (.ifCond .ne 15, 3) := by decide +kernel
theorem d_La_law_262 : decode b_La_law 262 = .ok (.aload_n 3, 1) := by decide +kernel
theorem d_La_law_263 : decode b_La_law 263 = .ok (.iconst 0, 1) := by decide +kernel
theorem d_La_law_264 : decode b_La_law 264 = .ok (.laload, 1) := by decide +kernel
theorem d_La_law_265 : decode b_La_law 265 = .ok (.iload 6, 2) := by decide +kernel
theorem d_La_law_267 : decode b_La_law 267 = .ok (.i2l, 1) := by decide +kernel
theorem d_La_law_268 : decode b_La_law 268 = .ok (.lcmp, 1) := by decide +kernel
theorem d_La_law_269 : decode b_La_law 269 = .ok (.ifCond .eq 5, 3) := by decide +kernel
theorem d_La_law_272 : decode b_La_law 272 = .ok (.iconst 0, 1) := by decide +kernel
theorem d_La_law_273 : decode b_La_law 273 = .ok (.ireturn, 1) := by decide +kernel
theorem d_La_law_274 : decode b_La_law 274 = .ok (.goto 1205, 3) := by decide +kernel
theorem d_La_law_277 : decode b_La_law 277 = .ok (.aload_n 1, 1) := by decide +kernel
theorem d_La_law_278 : decode b_La_law 278 = .ok (.aload_n 0, 1) := by decide +kernel
theorem d_La_law_279 : decode b_La_law 279 = .ok (.iload 4, 2) := by decide +kernel
theorem d_La_law_281 : decode b_La_law 281 = .ok (.iconst 1, 1) := by decide +kernel
theorem d_La_law_282 : decode b_La_law 282 = .ok (.iadd, 1) := by decide +kernel
theorem d_La_law_283 : decode b_La_law 283 = .ok (.iaload, 1) := by decide +kernel
theorem d_La_law_284 : decode b_La_law 284 = .ok (.aload_n 0, 1) := by decide +kernel
theorem d_La_law_285 : decode b_La_law 285 = .ok (.iload 4, 2) := by decide +kernel
theorem d_La_law_287 : decode b_La_law 287 = .ok (.iconst 2, 1) := by decide +kernel
theorem d_La_law_288 : decode b_La_law 288 = .ok (.iadd, 1) := by decide +kernel
theorem d_La_law_289 : decode b_La_law 289 = .ok (.iaload, 1) := by decide +kernel
theorem d_La_law_290 : decode b_La_law 290 = .ok (.aload_n 0, 1) := by decide +kernel
theorem d_La_law_291 : decode b_La_law 291 = .ok (.iload 4, 2) := by decide +kernel
theorem d_La_law_293 : decode b_La_law 293 = .ok (.iconst 3, 1) := by decide +kernel
theorem d_La_law_294 : decode b_La_law 294 = .ok (.iadd, 1) := by decide +kernel
theorem d_La_law_295 : decode b_La_law 295 = .ok (.iaload, 1) := by decide +kernel
theorem d_La_law_296 : decode b_La_law 296 = .ok (.aload_n 0, 1) := by decide +kernel
theorem d_La_law_297 : decode b_La_law 297 = .ok (.iload 4, 2) := by decide +kernel
theorem d_La_law_299 : decode b_La_law 299 = .ok (.iconst 4, 1) := by decide +kernel
theorem d_La_law_300 : decode b_La_law 300 = .ok (.iadd, 1) := by decide +kernel
theorem d_La_law_301 : decode b_La_law 301 = .ok (.iaload, 1) := by decide +kernel
theorem d_La_law_302 : decode b_La_law 302 = .ok (.aload_n 3, 1) := by decide +kernel
theorem d_La_law_303 : decode b_La_law 303 = .ok (.invokestatic 99, 3) := by decide +kernel
theorem d_La_law_306 : decode b_La_law 306 = .ok (.istore 5, 2) := by decide +kernel
theorem d_La_law_308 : decode b_La_law 308 = .ok (.aload_n 2, 1) := by decide +kernel
theorem d_La_law_309 : decode b_La_law 309 = .ok (.aload_n 0, 1) := by decide +kernel
theorem d_La_law_310 : decode b_La_law 310 = .ok (.iload 4, 2) := by decide +kernel
theorem d_La_law_312 : decode b_La_law 312 = .ok (.iconst 1, 1) := by decide +kernel
theorem d_La_law_313 : decode b_La_law 313 = .ok (.iadd, 1) := by decide +kernel
theorem d_La_law_314 : decode b_La_law 314 = .ok (.iaload, 1) := by decide +kernel
theorem d_La_law_315 : decode b_La_law 315 = .ok (.aload_n 0, 1) := by decide +kernel
theorem d_La_law_316 : decode b_La_law 316 = .ok (.iload 4, 2) := by decide +kernel
theorem d_La_law_318 : decode b_La_law 318 = .ok (.iconst 2, 1) := by decide +kernel
theorem d_La_law_319 : decode b_La_law 319 = .ok (.iadd, 1) := by decide +kernel
theorem d_La_law_320 : decode b_La_law 320 = .ok (.iaload, 1) := by decide +kernel
theorem d_La_law_321 : decode b_La_law 321 = .ok (.aload_n 0, 1) := by decide +kernel
theorem d_La_law_322 : decode b_La_law 322 = .ok (.iload 4, 2) := by decide +kernel
theorem d_La_law_324 : decode b_La_law 324 = .ok (.iconst 3, 1) := by decide +kernel
theorem d_La_law_325 : decode b_La_law 325 = .ok (.iadd, 1) := by decide +kernel
theorem d_La_law_326 : decode b_La_law 326 = .ok (.iaload, 1) := by decide +kernel
theorem d_La_law_327 : decode b_La_law 327 = .ok (.aload_n 0, 1) := by decide +kernel
theorem d_La_law_328 : decode b_La_law 328 = .ok (.iload 4, 2) := by decide +kernel
theorem d_La_law_330 : decode b_La_law 330 = .ok (.iconst 4, 1) := by decide +kernel
theorem d_La_law_331 : decode b_La_law 331 = .ok (.iadd, 1) := by decide +kernel
theorem d_La_law_332 : decode b_La_law 332 = .ok (.iaload, 1) := by decide +kernel
theorem d_La_law_333 : decode b_La_law 333 = .ok (.invokevirtual 102, 3) := by decide +kernel
theorem d_La_law_336 : decode b_La_law 336 = .ok (.istore 6, 2) := by decide +kernel
theorem d_La_law_338 : decode b_La_law 338 = .ok (.aload_n 2, 1) := by decide +kernel
theorem d_La_law_339 : decode b_La_law 339 = .ok (.invokevirtual 96, 3) := by decide +kernel
theorem d_La_law_342 : decode b_La_law 342 = .ok (.iload 5, 2) := by decide +kernel
theorem d_La_law_344 : decode b_La_law 344 = .ok (.if_icmp .eq 5, 3) := by decide +kernel
theorem d_La_law_347 : decode b_La_law 347 = .ok (.iconst 0, 1) := by decide +kernel
theorem d_La_law_348 : decode b_La_law 348 = .ok (.ireturn, 1) := by decide +kernel
theorem d_La_law_349 : decode b_La_law 349 = .ok (.iload 5, 2) := by decide +kernel
theorem d_La_law_351 : decode b_La_law 351 = .ok (.ifCond .ne 15, 3) := by decide +kernel
theorem d_La_law_354 : decode b_La_law 354 = .ok (.aload_n 3, 1) := by decide +kernel
theorem d_La_law_355 : decode b_La_law 355 = .ok (.iconst 0, 1) := by decide +kernel
theorem d_La_law_356 : decode b_La_law 356 = .ok (.laload, 1) := by decide +kernel
theorem d_La_law_357 : decode b_La_law 357 = .ok (.iload 6, 2) := by decide +kernel
theorem d_La_law_359 : decode b_La_law 359 = .ok (.i2l, 1) := by decide +kernel
theorem d_La_law_360 : decode b_La_law 360 = .ok (.lcmp, 1) := by decide +kernel
theorem d_La_law_361 : decode b_La_law 361 = .ok (.ifCond .eq 5, 3) := by decide +kernel
theorem d_La_law_364 : decode b_La_law 364 = .ok (.iconst 0, 1) := by decide +kernel
theorem d_La_law_365 : decode b_La_law 365 = .ok (.ireturn, 1) := by decide +kernel
theorem d_La_law_366 : decode b_La_law 366 = .ok (.goto 1113, 3) := by decide +kernel
theorem d_La_law_369 : decode b_La_law 369 = .ok (.aload_n 1, 1) := by decide +kernel
theorem d_La_law_370 : decode b_La_law 370 = .ok (.aload_n 0, 1) := by decide +kernel
theorem d_La_law_371 : decode b_La_law 371 = .ok (.iload 4, 2) := by decide +kernel
theorem d_La_law_373 : decode b_La_law 373 = .ok (.iconst 1, 1) := by decide +kernel
theorem d_La_law_374 : decode b_La_law 374 = .ok (.iadd, 1) := by decide +kernel
theorem d_La_law_375 : decode b_La_law 375 = .ok (.iaload, 1) := by decide +kernel
theorem d_La_law_376 : decode b_La_law 376 = .ok (.aload_n 0, 1) := by decide +kernel
theorem d_La_law_377 : decode b_La_law 377 = .ok (.iload 4, 2) := by decide +kernel
theorem d_La_law_379 : decode b_La_law 379 = .ok (.iconst 2, 1) := by decide +kernel
theorem d_La_law_380 : decode b_La_law 380 = .ok (.iadd, 1) := by decide +kernel
theorem d_La_law_381 : decode b_La_law 381 = .ok (.iaload, 1) := by decide +kernel
theorem d_La_law_382 : decode b_La_law 382 = .ok (.aload_n 0, 1) := by decide +kernel
theorem d_La_law_383 : decode b_La_law 383 = .ok (.iload 4, 2) := by decide +kernel
theorem d_La_law_385 : decode b_La_law 385 = .ok (.iconst 3, 1) := by decide +kernel
theorem d_La_law_386 : decode b_La_law 386 = .ok (.iadd, 1) := by decide +kernel
theorem d_La_law_387 : decode b_La_law 387 = .ok (.iaload, 1) := by decide +kernel
theorem d_La_law_388 : decode b_La_law 388 = .ok (.aload_n 3, 1) := by decide +kernel
theorem d_La_law_389 : decode b_La_law 389 = .ok (.invokestatic 103, 3) := by decide +kernel
theorem d_La_law_392 : decode b_La_law 392 = .ok (.istore 5, 2) := by decide +kernel
theorem d_La_law_394 : decode b_La_law 394 = .ok (.aload_n 2, 1) := by decide +kernel
theorem d_La_law_395 : decode b_La_law 395 = .ok (.aload_n 0, 1) := by decide +kernel
theorem d_La_law_396 : decode b_La_law 396 = .ok (.iload 4, 2) := by decide +kernel
theorem d_La_law_398 : decode b_La_law 398 = .ok (.iconst 1, 1) := by decide +kernel
theorem d_La_law_399 : decode b_La_law 399 = .ok (.iadd, 1) := by decide +kernel
theorem d_La_law_400 : decode b_La_law 400 = .ok (.iaload, 1) := by decide +kernel
theorem d_La_law_401 : decode b_La_law 401 = .ok (.aload_n 0, 1) := by decide +kernel
theorem d_La_law_402 : decode b_La_law 402 = .ok (.iload 4, 2) := by decide +kernel
theorem d_La_law_404 : decode b_La_law 404 = .ok (.iconst 2, 1) := by decide +kernel
theorem d_La_law_405 : decode b_La_law 405 = .ok (.iadd, 1) := by decide +kernel
theorem d_La_law_406 : decode b_La_law 406 = .ok (.iaload, 1) := by decide +kernel
theorem d_La_law_407 : decode b_La_law 407 = .ok (.aload_n 0, 1) := by decide +kernel
theorem d_La_law_408 : decode b_La_law 408 = .ok (.iload 4, 2) := by decide +kernel
theorem d_La_law_410 : decode b_La_law 410 = .ok (.iconst 3, 1) := by decide +kernel
theorem d_La_law_411 : decode b_La_law 411 = .ok (.iadd, 1) := by decide +kernel
theorem d_La_law_412 : decode b_La_law 412 = .ok (.iaload, 1) := by decide +kernel
theorem d_La_law_413 : decode b_La_law 413 = .ok (.invokevirtual 106, 3) := by decide +kernel
theorem d_La_law_416 : decode b_La_law 416 = .ok (.istore 6, 2) := by decide +kernel
theorem d_La_law_418 : decode b_La_law 418 = .ok (.aload_n 2, 1) := by decide +kernel
theorem d_La_law_419 : decode b_La_law 419 = .ok (.invokevirtual 96, 3) := by decide +kernel
theorem d_La_law_422 : decode b_La_law 422 = .ok (.iload 5, 2) := by decide +kernel
theorem d_La_law_424 : decode b_La_law 424 = .ok (.if_icmp .eq 5, 3) := by decide +kernel
theorem d_La_law_427 : decode b_La_law 427 = .ok (.iconst 0, 1) := by decide +kernel
theorem d_La_law_428 : decode b_La_law 428 = .ok (.ireturn, 1) := by decide +kernel
theorem d_La_law_429 : decode b_La_law 429 = .ok (.iload 5, 2) := by decide +kernel
theorem d_La_law_431 : decode b_La_law 431 = .ok (.ifCond .ne 15, 3) := by decide +kernel
theorem d_La_law_434 : decode b_La_law 434 = .ok (.aload_n 3, 1) := by decide +kernel
theorem d_La_law_435 : decode b_La_law 435 = .ok (.iconst 0, 1) := by decide +kernel
theorem d_La_law_436 : decode b_La_law 436 = .ok (.laload, 1) := by decide +kernel
theorem d_La_law_437 : decode b_La_law 437 = .ok (.iload 6, 2) := by decide +kernel
theorem d_La_law_439 : decode b_La_law 439 = .ok (.i2l, 1) := by decide +kernel
theorem d_La_law_440 : decode b_La_law 440 = .ok (.lcmp, 1) := by decide +kernel
theorem d_La_law_441 : decode b_La_law 441 = .ok (.ifCond .eq 5, 3) := by decide +kernel
theorem d_La_law_444 : decode b_La_law 444 = .ok (.iconst 0, 1) := by decide +kernel
theorem d_La_law_445 : decode b_La_law 445 = .ok (.ireturn, 1) := by decide +kernel
theorem d_La_law_446 : decode b_La_law 446 = .ok (.goto 1033, 3) := by decide +kernel
theorem d_La_law_449 : decode b_La_law 449 = .ok (.aload_n 1, 1) := by decide +kernel
theorem d_La_law_450 : decode b_La_law 450 = .ok (.aload_n 0, 1) := by decide +kernel
theorem d_La_law_451 : decode b_La_law 451 = .ok (.iload 4, 2) := by decide +kernel
theorem d_La_law_453 : decode b_La_law 453 = .ok (.iconst 1, 1) := by decide +kernel
theorem d_La_law_454 : decode b_La_law 454 = .ok (.iadd, 1) := by decide +kernel
theorem d_La_law_455 : decode b_La_law 455 = .ok (.iaload, 1) := by decide +kernel
theorem d_La_law_456 : decode b_La_law 456 = .ok (.aload_n 0, 1) := by decide +kernel
theorem d_La_law_457 : decode b_La_law 457 = .ok (.iload 4, 2) := by decide +kernel
theorem d_La_law_459 : decode b_La_law 459 = .ok (.iconst 2, 1) := by decide +kernel
theorem d_La_law_460 : decode b_La_law 460 = .ok (.iadd, 1) := by decide +kernel
theorem d_La_law_461 : decode b_La_law 461 = .ok (.iaload, 1) := by decide +kernel
theorem d_La_law_462 : decode b_La_law 462 = .ok (.aload_n 0, 1) := by decide +kernel
theorem d_La_law_463 : decode b_La_law 463 = .ok (.iload 4, 2) := by decide +kernel
theorem d_La_law_465 : decode b_La_law 465 = .ok (.iconst 3, 1) := by decide +kernel
theorem d_La_law_466 : decode b_La_law 466 = .ok (.iadd, 1) := by decide +kernel
theorem d_La_law_467 : decode b_La_law 467 = .ok (.iaload, 1) := by decide +kernel
theorem d_La_law_468 : decode b_La_law 468 = .ok (.aload_n 0, 1) := by decide +kernel
theorem d_La_law_469 : decode b_La_law 469 = .ok (.iload 4, 2) := by decide +kernel
theorem d_La_law_471 : decode b_La_law 471 = .ok (.iconst 4, 1) := by decide +kernel
theorem d_La_law_472 : decode b_La_law 472 = .ok (.iadd, 1) := by decide +kernel
theorem d_La_law_473 : decode b_La_law 473 = .ok (.iaload, 1) := by decide +kernel
theorem d_La_law_474 : decode b_La_law 474 = .ok (.aload_n 0, 1) := by decide +kernel
theorem d_La_law_475 : decode b_La_law 475 = .ok (.iload 4, 2) := by decide +kernel
theorem d_La_law_477 : decode b_La_law 477 = .ok (.iconst 5, 1) := by decide +kernel
theorem d_La_law_478 : decode b_La_law 478 = .ok (.iadd, 1) := by decide +kernel
theorem d_La_law_479 : decode b_La_law 479 = .ok (.iaload, 1) := by decide +kernel
theorem d_La_law_480 : decode b_La_law 480 = .ok (.aload_n 0, 1) := by decide +kernel
theorem d_La_law_481 : decode b_La_law 481 = .ok (.iload 4, 2) := by decide +kernel
theorem d_La_law_483 : decode b_La_law 483 = .ok (.bipush 6, 2) := by decide +kernel
theorem d_La_law_485 : decode b_La_law 485 = .ok (.iadd, 1) := by decide +kernel
theorem d_La_law_486 : decode b_La_law 486 = .ok (.iaload, 1) := by decide +kernel
theorem d_La_law_487 : decode b_La_law 487 = .ok (.aload_n 3, 1) := by decide +kernel
theorem d_La_law_488 : decode b_La_law 488 = .ok (.invokestatic 107, 3) := by decide +kernel
theorem d_La_law_491 : decode b_La_law 491 = .ok (.istore 5, 2) := by decide +kernel
theorem d_La_law_493 : decode b_La_law 493 = .ok (.aload_n 2, 1) := by decide +kernel
theorem d_La_law_494 : decode b_La_law 494 = .ok (.aload_n 0, 1) := by decide +kernel
theorem d_La_law_495 : decode b_La_law 495 = .ok (.iload 4, 2) := by decide +kernel
theorem d_La_law_497 : decode b_La_law 497 = .ok (.iconst 1, 1) := by decide +kernel
theorem d_La_law_498 : decode b_La_law 498 = .ok (.iadd, 1) := by decide +kernel
theorem d_La_law_499 : decode b_La_law 499 = .ok (.iaload, 1) := by decide +kernel
theorem d_La_law_500 : decode b_La_law 500 = .ok (.aload_n 0, 1) := by decide +kernel
theorem d_La_law_501 : decode b_La_law 501 = .ok (.iload 4, 2) := by decide +kernel
theorem d_La_law_503 : decode b_La_law 503 = .ok (.iconst 2, 1) := by decide +kernel
theorem d_La_law_504 : decode b_La_law 504 = .ok (.iadd, 1) := by decide +kernel
theorem d_La_law_505 : decode b_La_law 505 = .ok (.iaload, 1) := by decide +kernel
theorem d_La_law_506 : decode b_La_law 506 = .ok (.aload_n 0, 1) := by decide +kernel
theorem d_La_law_507 : decode b_La_law 507 = .ok (.iload 4, 2) := by decide +kernel
theorem d_La_law_509 : decode b_La_law 509 = .ok (.iconst 3, 1) := by decide +kernel
theorem d_La_law_510 : decode b_La_law 510 = .ok (.iadd, 1) := by decide +kernel
theorem d_La_law_511 : decode b_La_law 511 = .ok (.iaload, 1) := by decide +kernel
theorem d_La_law_512 : decode b_La_law 512 = .ok (.aload_n 0, 1) := by decide +kernel
theorem d_La_law_513 : decode b_La_law 513 = .ok (.iload 4, 2) := by decide +kernel
theorem d_La_law_515 : decode b_La_law 515 = .ok (.iconst 4, 1) := by decide +kernel
theorem d_La_law_516 : decode b_La_law 516 = .ok (.iadd, 1) := by decide +kernel
theorem d_La_law_517 : decode b_La_law 517 = .ok (.iaload, 1) := by decide +kernel
theorem d_La_law_518 : decode b_La_law 518 = .ok (.aload_n 0, 1) := by decide +kernel
theorem d_La_law_519 : decode b_La_law 519 = .ok (.iload 4, 2) := by decide +kernel
theorem d_La_law_521 : decode b_La_law 521 = .ok (.iconst 5, 1) := by decide +kernel
theorem d_La_law_522 : decode b_La_law 522 = .ok (.iadd, 1) := by decide +kernel
theorem d_La_law_523 : decode b_La_law 523 = .ok (.iaload, 1) := by decide +kernel
theorem d_La_law_524 : decode b_La_law 524 = .ok (.aload_n 0, 1) := by decide +kernel
theorem d_La_law_525 : decode b_La_law 525 = .ok (.iload 4, 2) := by decide +kernel
theorem d_La_law_527 : decode b_La_law 527 = .ok (.bipush 6, 2) := by decide +kernel
theorem d_La_law_529 : decode b_La_law 529 = .ok (.iadd, 1) := by decide +kernel
theorem d_La_law_530 : decode b_La_law 530 = .ok (.iaload, 1) := by decide +kernel
theorem d_La_law_531 : decode b_La_law 531 = .ok (.invokevirtual 110, 3) := by decide +kernel
theorem d_La_law_534 : decode b_La_law 534 = .ok (.istore 6, 2) := by decide +kernel
theorem d_La_law_536 : decode b_La_law 536 = .ok (.aload_n 2, 1) := by decide +kernel
theorem d_La_law_537 : decode b_La_law 537 = .ok (.invokevirtual 96, 3) := by decide +kernel
theorem d_La_law_540 : decode b_La_law 540 = .ok (.iload 5, 2) := by decide +kernel
theorem d_La_law_542 : decode b_La_law 542 = .ok (.if_icmp .eq 5, 3) := by decide +kernel
theorem d_La_law_545 : decode b_La_law 545 = .ok (.iconst 0, 1) := by decide +kernel
theorem d_La_law_546 : decode b_La_law 546 = .ok (.ireturn, 1) := by decide +kernel
theorem d_La_law_547 : decode b_La_law 547 = .ok (.iload 5, 2) := by decide +kernel
theorem d_La_law_549 : decode b_La_law 549 = .ok (.ifCond .ne 15, 3) := by decide +kernel
theorem d_La_law_552 : decode b_La_law 552 = .ok (.aload_n 3, 1) := by decide +kernel
theorem d_La_law_553 : decode b_La_law 553 = .ok (.iconst 0, 1) := by decide +kernel
theorem d_La_law_554 : decode b_La_law 554 = .ok (.laload, 1) := by decide +kernel
theorem d_La_law_555 : decode b_La_law 555 = .ok (.iload 6, 2) := by decide +kernel
theorem d_La_law_557 : decode b_La_law 557 = .ok (.i2l, 1) := by decide +kernel
theorem d_La_law_558 : decode b_La_law 558 = .ok (.lcmp, 1) := by decide +kernel
theorem d_La_law_559 : decode b_La_law 559 = .ok (.ifCond .eq 5, 3) := by decide +kernel
theorem d_La_law_562 : decode b_La_law 562 = .ok (.iconst 0, 1) := by decide +kernel
theorem d_La_law_563 : decode b_La_law 563 = .ok (.ireturn, 1) := by decide +kernel
theorem d_La_law_564 : decode b_La_law 564 = .ok (.goto 915, 3) := by decide +kernel
theorem d_La_law_567 : decode b_La_law 567 = .ok (.aload_n 1, 1) := by decide +kernel
theorem d_La_law_568 : decode b_La_law 568 = .ok (.aload_n 0, 1) := by decide +kernel
theorem d_La_law_569 : decode b_La_law 569 = .ok (.iload 4, 2) := by decide +kernel
theorem d_La_law_571 : decode b_La_law 571 = .ok (.iconst 1, 1) := by decide +kernel
theorem d_La_law_572 : decode b_La_law 572 = .ok (.iadd, 1) := by decide +kernel
theorem d_La_law_573 : decode b_La_law 573 = .ok (.iaload, 1) := by decide +kernel
theorem d_La_law_574 : decode b_La_law 574 = .ok (.aload_n 0, 1) := by decide +kernel
theorem d_La_law_575 : decode b_La_law 575 = .ok (.iload 4, 2) := by decide +kernel
theorem d_La_law_577 : decode b_La_law 577 = .ok (.iconst 2, 1) := by decide +kernel
theorem d_La_law_578 : decode b_La_law 578 = .ok (.iadd, 1) := by decide +kernel
theorem d_La_law_579 : decode b_La_law 579 = .ok (.iaload, 1) := by decide +kernel
theorem d_La_law_580 : decode b_La_law 580 = .ok (.aload_n 3, 1) := by decide +kernel
theorem d_La_law_581 : decode b_La_law 581 = .ok (.invokestatic 111, 3) := by decide +kernel
theorem d_La_law_584 : decode b_La_law 584 = .ok (.istore 5, 2) := by decide +kernel
theorem d_La_law_586 : decode b_La_law 586 = .ok (.aload_n 2, 1) := by decide +kernel
theorem d_La_law_587 : decode b_La_law 587 = .ok (.aload_n 0, 1) := by decide +kernel
theorem d_La_law_588 : decode b_La_law 588 = .ok (.iload 4, 2) := by decide +kernel
theorem d_La_law_590 : decode b_La_law 590 = .ok (.iconst 1, 1) := by decide +kernel
theorem d_La_law_591 : decode b_La_law 591 = .ok (.iadd, 1) := by decide +kernel
theorem d_La_law_592 : decode b_La_law 592 = .ok (.iaload, 1) := by decide +kernel
theorem d_La_law_593 : decode b_La_law 593 = .ok (.aload_n 0, 1) := by decide +kernel
theorem d_La_law_594 : decode b_La_law 594 = .ok (.iload 4, 2) := by decide +kernel
theorem d_La_law_596 : decode b_La_law 596 = .ok (.iconst 2, 1) := by decide +kernel
theorem d_La_law_597 : decode b_La_law 597 = .ok (.iadd, 1) := by decide +kernel
theorem d_La_law_598 : decode b_La_law 598 = .ok (.iaload, 1) := by decide +kernel
theorem d_La_law_599 : decode b_La_law 599 = .ok (.invokevirtual 114, 3) := by decide +kernel
theorem d_La_law_602 : decode b_La_law 602 = .ok (.istore 6, 2) := by decide +kernel
theorem d_La_law_604 : decode b_La_law 604 = .ok (.aload_n 2, 1) := by decide +kernel
theorem d_La_law_605 : decode b_La_law 605 = .ok (.invokevirtual 96, 3) := by decide +kernel
theorem d_La_law_608 : decode b_La_law 608 = .ok (.iload 5, 2) := by decide +kernel
theorem d_La_law_610 : decode b_La_law 610 = .ok (.if_icmp .eq 5, 3) := by decide +kernel
theorem d_La_law_613 : decode b_La_law 613 = .ok (.iconst 0, 1) := by decide +kernel
theorem d_La_law_614 : decode b_La_law 614 = .ok (.ireturn, 1) := by decide +kernel
theorem d_La_law_615 : decode b_La_law 615 = .ok (.iload 5, 2) := by decide +kernel
theorem d_La_law_617 : decode b_La_law 617 = .ok (.ifCond .ne 15, 3) := by decide +kernel
theorem d_La_law_620 : decode b_La_law 620 = .ok (.aload_n 3, 1) := by decide +kernel
theorem d_La_law_621 : decode b_La_law 621 = .ok (.iconst 0, 1) := by decide +kernel
theorem d_La_law_622 : decode b_La_law 622 = .ok (.laload, 1) := by decide +kernel
theorem d_La_law_623 : decode b_La_law 623 = .ok (.iload 6, 2) := by decide +kernel
theorem d_La_law_625 : decode b_La_law 625 = .ok (.i2l, 1) := by decide +kernel
theorem d_La_law_626 : decode b_La_law 626 = .ok (.lcmp, 1) := by decide +kernel
theorem d_La_law_627 : decode b_La_law 627 = .ok (.ifCond .eq 5, 3) := by decide +kernel
theorem d_La_law_630 : decode b_La_law 630 = .ok (.iconst 0, 1) := by decide +kernel
theorem d_La_law_631 : decode b_La_law 631 = .ok (.ireturn, 1) := by decide +kernel
theorem d_La_law_632 : decode b_La_law 632 = .ok (.goto 847, 3) := by decide +kernel
theorem d_La_law_635 : decode b_La_law 635 = .ok (.aload_n 1, 1) := by decide +kernel
theorem d_La_law_636 : decode b_La_law 636 = .ok (.aload_n 0, 1) := by decide +kernel
theorem d_La_law_637 : decode b_La_law 637 = .ok (.iload 4, 2) := by decide +kernel
theorem d_La_law_639 : decode b_La_law 639 = .ok (.iconst 1, 1) := by decide +kernel
theorem d_La_law_640 : decode b_La_law 640 = .ok (.iadd, 1) := by decide +kernel
theorem d_La_law_641 : decode b_La_law 641 = .ok (.iaload, 1) := by decide +kernel
theorem d_La_law_642 : decode b_La_law 642 = .ok (.aload_n 0, 1) := by decide +kernel
theorem d_La_law_643 : decode b_La_law 643 = .ok (.iload 4, 2) := by decide +kernel
theorem d_La_law_645 : decode b_La_law 645 = .ok (.iconst 2, 1) := by decide +kernel
theorem d_La_law_646 : decode b_La_law 646 = .ok (.iadd, 1) := by decide +kernel
theorem d_La_law_647 : decode b_La_law 647 = .ok (.iaload, 1) := by decide +kernel
theorem d_La_law_648 : decode b_La_law 648 = .ok (.aload_n 0, 1) := by decide +kernel
theorem d_La_law_649 : decode b_La_law 649 = .ok (.iload 4, 2) := by decide +kernel
theorem d_La_law_651 : decode b_La_law 651 = .ok (.iconst 3, 1) := by decide +kernel
theorem d_La_law_652 : decode b_La_law 652 = .ok (.iadd, 1) := by decide +kernel
theorem d_La_law_653 : decode b_La_law 653 = .ok (.iaload, 1) := by decide +kernel
theorem d_La_law_654 : decode b_La_law 654 = .ok (.aload_n 3, 1) := by decide +kernel
theorem d_La_law_655 : decode b_La_law 655 = .ok (.invokestatic 115, 3) := by decide +kernel
theorem d_La_law_658 : decode b_La_law 658 = .ok (.istore 5, 2) := by decide +kernel
theorem d_La_law_660 : decode b_La_law 660 = .ok (.aload_n 2, 1) := by decide +kernel
theorem d_La_law_661 : decode b_La_law 661 = .ok (.aload_n 0, 1) := by decide +kernel
theorem d_La_law_662 : decode b_La_law 662 = .ok (.iload 4, 2) := by decide +kernel
theorem d_La_law_664 : decode b_La_law 664 = .ok (.iconst 1, 1) := by decide +kernel
theorem d_La_law_665 : decode b_La_law 665 = .ok (.iadd, 1) := by decide +kernel
theorem d_La_law_666 : decode b_La_law 666 = .ok (.iaload, 1) := by decide +kernel
theorem d_La_law_667 : decode b_La_law 667 = .ok (.aload_n 0, 1) := by decide +kernel
theorem d_La_law_668 : decode b_La_law 668 = .ok (.iload 4, 2) := by decide +kernel
theorem d_La_law_670 : decode b_La_law 670 = .ok (.iconst 2, 1) := by decide +kernel
theorem d_La_law_671 : decode b_La_law 671 = .ok (.iadd, 1) := by decide +kernel
theorem d_La_law_672 : decode b_La_law 672 = .ok (.iaload, 1) := by decide +kernel
theorem d_La_law_673 : decode b_La_law 673 = .ok (.aload_n 0, 1) := by decide +kernel
theorem d_La_law_674 : decode b_La_law 674 = .ok (.iload 4, 2) := by decide +kernel
theorem d_La_law_676 : decode b_La_law 676 = .ok (.iconst 3, 1) := by decide +kernel
theorem d_La_law_677 : decode b_La_law 677 = .ok (.iadd, 1) := by decide +kernel
theorem d_La_law_678 : decode b_La_law 678 = .ok (.iaload, 1) := by decide +kernel
theorem d_La_law_679 : decode b_La_law 679 = .ok (.invokevirtual 117, 3) := by decide +kernel
theorem d_La_law_682 : decode b_La_law 682 = .ok (.istore 6, 2) := by decide +kernel
theorem d_La_law_684 : decode b_La_law 684 = .ok (.aload_n 2, 1) := by decide +kernel
theorem d_La_law_685 : decode b_La_law 685 = .ok (.invokevirtual 96, 3) := by decide +kernel
theorem d_La_law_688 : decode b_La_law 688 = .ok (.iload 5, 2) := by decide +kernel
theorem d_La_law_690 : decode b_La_law 690 = .ok (.if_icmp .eq 5, 3) := by decide +kernel
theorem d_La_law_693 : decode b_La_law 693 = .ok (.iconst 0, 1) := by decide +kernel
theorem d_La_law_694 : decode b_La_law 694 = .ok (.ireturn, 1) := by decide +kernel
theorem d_La_law_695 : decode b_La_law 695 = .ok (.iload 5, 2) := by decide +kernel
theorem d_La_law_697 : decode b_La_law 697 = .ok (.ifCond .ne 22, 3) := by decide +kernel
theorem d_La_law_700 : decode b_La_law 700 = .ok (.aload_n 3, 1) := by decide +kernel
theorem d_La_law_701 : decode b_La_law 701 = .ok (.iconst 0, 1) := by decide +kernel
theorem d_La_law_702 : decode b_La_law 702 = .ok (.laload, 1) := by decide +kernel
theorem d_La_law_703 : decode b_La_law 703 = .ok (.iload 6, 2) := by decide +kernel
theorem d_La_law_705 : decode b_La_law 705 = .ok (.ifCond .eq 7, 3) := by decide +kernel
theorem d_La_law_708 : decode b_La_law 708 = .ok (.lconst 1, 1) := by decide +kernel
theorem d_La_law_709 : decode b_La_law 709 = .ok (.goto 4, 3) := by decide +kernel
theorem d_La_law_712 : decode b_La_law 712 = .ok (.lconst 0, 1) := by decide +kernel
theorem d_La_law_713 : decode b_La_law 713 = .ok (.lcmp, 1) := by decide +kernel
theorem d_La_law_714 : decode b_La_law 714 = .ok (.ifCond .eq 5, 3) := by decide +kernel
theorem d_La_law_717 : decode b_La_law 717 = .ok (.iconst 0, 1) := by decide +kernel
theorem d_La_law_718 : decode b_La_law 718 = .ok (.ireturn, 1) := by decide +kernel
theorem d_La_law_719 : decode b_La_law 719 = .ok (.goto 760, 3) := by decide +kernel
theorem d_La_law_722 : decode b_La_law 722 = .ok (.aload_n 1, 1) := by decide +kernel
theorem d_La_law_723 : decode b_La_law 723 = .ok (.aload_n 0, 1) := by decide +kernel
theorem d_La_law_724 : decode b_La_law 724 = .ok (.iload 4, 2) := by decide +kernel
theorem d_La_law_726 : decode b_La_law 726 = .ok (.iconst 1, 1) := by decide +kernel
theorem d_La_law_727 : decode b_La_law 727 = .ok (.iadd, 1) := by decide +kernel
theorem d_La_law_728 : decode b_La_law 728 = .ok (.iaload, 1) := by decide +kernel
theorem d_La_law_729 : decode b_La_law 729 = .ok (.aload_n 3, 1) := by decide +kernel
theorem d_La_law_730 : decode b_La_law 730 = .ok (.invokestatic 118, 3) := by decide +kernel
theorem d_La_law_733 : decode b_La_law 733 = .ok (.istore 5, 2) := by decide +kernel
theorem d_La_law_735 : decode b_La_law 735 = .ok (.aload_n 2, 1) := by decide +kernel
theorem d_La_law_736 : decode b_La_law 736 = .ok (.aload_n 0, 1) := by decide +kernel
theorem d_La_law_737 : decode b_La_law 737 = .ok (.iload 4, 2) := by decide +kernel
theorem d_La_law_739 : decode b_La_law 739 = .ok (.iconst 1, 1) := by decide +kernel
theorem d_La_law_740 : decode b_La_law 740 = .ok (.iadd, 1) := by decide +kernel
theorem d_La_law_741 : decode b_La_law 741 = .ok (.iaload, 1) := by decide +kernel
theorem d_La_law_742 : decode b_La_law 742 = .ok (.invokevirtual 121, 3) := by decide +kernel
theorem d_La_law_745 : decode b_La_law 745 = .ok (.istore 6, 2) := by decide +kernel
theorem d_La_law_747 : decode b_La_law 747 = .ok (.aload_n 2, 1) := by decide +kernel
theorem d_La_law_748 : decode b_La_law 748 = .ok (.invokevirtual 96, 3) := by decide +kernel
theorem d_La_law_751 : decode b_La_law 751 = .ok (.iload 5, 2) := by decide +kernel
theorem d_La_law_753 : decode b_La_law 753 = .ok (.if_icmp .eq 5, 3) := by decide +kernel
theorem d_La_law_756 : decode b_La_law 756 = .ok (.iconst 0, 1) := by decide +kernel
theorem d_La_law_757 : decode b_La_law 757 = .ok (.ireturn, 1) := by decide +kernel
theorem d_La_law_758 : decode b_La_law 758 = .ok (.iload 5, 2) := by decide +kernel
theorem d_La_law_760 : decode b_La_law 760 = .ok (.ifCond .ne 22, 3) := by decide +kernel
theorem d_La_law_763 : decode b_La_law 763 = .ok (.aload_n 3, 1) := by decide +kernel
theorem d_La_law_764 : decode b_La_law 764 = .ok (.iconst 0, 1) := by decide +kernel
theorem d_La_law_765 : decode b_La_law 765 = .ok (.laload, 1) := by decide +kernel
theorem d_La_law_766 : decode b_La_law 766 = .ok (.iload 6, 2) := by decide +kernel
theorem d_La_law_768 : decode b_La_law 768 = .ok (.ifCond .eq 7, 3) := by decide +kernel
theorem d_La_law_771 : decode b_La_law 771 = .ok (.lconst 1, 1) := by decide +kernel
theorem d_La_law_772 : decode b_La_law 772 = .ok (.goto 4, 3) := by decide +kernel
theorem d_La_law_775 : decode b_La_law 775 = .ok (.lconst 0, 1) := by decide +kernel
theorem d_La_law_776 : decode b_La_law 776 = .ok (.lcmp, 1) := by decide +kernel
theorem d_La_law_777 : decode b_La_law 777 = .ok (.ifCond .eq 5, 3) := by decide +kernel
theorem d_La_law_780 : decode b_La_law 780 = .ok (.iconst 0, 1) := by decide +kernel
theorem d_La_law_781 : decode b_La_law 781 = .ok (.ireturn, 1) := by decide +kernel
theorem d_La_law_782 : decode b_La_law 782 = .ok (.goto 697, 3) := by decide +kernel
theorem d_La_law_785 : decode b_La_law 785 = .ok (.aload_n 1, 1) := by decide +kernel
theorem d_La_law_786 : decode b_La_law 786 = .ok (.aload_n 0, 1) := by decide +kernel
theorem d_La_law_787 : decode b_La_law 787 = .ok (.iload 4, 2) := by decide +kernel
theorem d_La_law_789 : decode b_La_law 789 = .ok (.iconst 1, 1) := by decide +kernel
theorem d_La_law_790 : decode b_La_law 790 = .ok (.iadd, 1) := by decide +kernel
theorem d_La_law_791 : decode b_La_law 791 = .ok (.iaload, 1) := by decide +kernel
theorem d_La_law_792 : decode b_La_law 792 = .ok (.aload_n 3, 1) := by decide +kernel
theorem d_La_law_793 : decode b_La_law 793 = .ok (.invokestatic 122, 3) := by decide +kernel
theorem d_La_law_796 : decode b_La_law 796 = .ok (.istore 5, 2) := by decide +kernel
theorem d_La_law_798 : decode b_La_law 798 = .ok (.aload_n 2, 1) := by decide +kernel
theorem d_La_law_799 : decode b_La_law 799 = .ok (.aload_n 0, 1) := by decide +kernel
theorem d_La_law_800 : decode b_La_law 800 = .ok (.iload 4, 2) := by decide +kernel
theorem d_La_law_802 : decode b_La_law 802 = .ok (.iconst 1, 1) := by decide +kernel
theorem d_La_law_803 : decode b_La_law 803 = .ok (.iadd, 1) := by decide +kernel
theorem d_La_law_804 : decode b_La_law 804 = .ok (.iaload, 1) := by decide +kernel
theorem d_La_law_805 : decode b_La_law 805 = .ok (.invokevirtual 124, 3) := by decide +kernel
theorem d_La_law_808 : decode b_La_law 808 = .ok (.istore 6, 2) := by decide +kernel
theorem d_La_law_810 : decode b_La_law 810 = .ok (.aload_n 2, 1) := by decide +kernel
theorem d_La_law_811 : decode b_La_law 811 = .ok (.invokevirtual 96, 3) := by decide +kernel
theorem d_La_law_814 : decode b_La_law 814 = .ok (.iload 5, 2) := by decide +kernel
theorem d_La_law_816 : decode b_La_law 816 = .ok (.if_icmp .eq 5, 3) := by decide +kernel
theorem d_La_law_819 : decode b_La_law 819 = .ok (.iconst 0, 1) := by decide +kernel
theorem d_La_law_820 : decode b_La_law 820 = .ok (.ireturn, 1) := by decide +kernel
theorem d_La_law_821 : decode b_La_law 821 = .ok (.iload 5, 2) := by decide +kernel
theorem d_La_law_823 : decode b_La_law 823 = .ok (.ifCond .ne 15, 3) := by decide +kernel
theorem d_La_law_826 : decode b_La_law 826 = .ok (.aload_n 3, 1) := by decide +kernel
theorem d_La_law_827 : decode b_La_law 827 = .ok (.iconst 0, 1) := by decide +kernel
theorem d_La_law_828 : decode b_La_law 828 = .ok (.laload, 1) := by decide +kernel
theorem d_La_law_829 : decode b_La_law 829 = .ok (.iload 6, 2) := by decide +kernel
theorem d_La_law_831 : decode b_La_law 831 = .ok (.i2l, 1) := by decide +kernel
theorem d_La_law_832 : decode b_La_law 832 = .ok (.lcmp, 1) := by decide +kernel
theorem d_La_law_833 : decode b_La_law 833 = .ok (.ifCond .eq 5, 3) := by decide +kernel
theorem d_La_law_836 : decode b_La_law 836 = .ok (.iconst 0, 1) := by decide +kernel
theorem d_La_law_837 : decode b_La_law 837 = .ok (.ireturn, 1) := by decide +kernel
theorem d_La_law_838 : decode b_La_law 838 = .ok (.goto 641, 3) := by decide +kernel
theorem d_La_law_841 : decode b_La_law 841 = .ok (.aload_n 1, 1) := by decide +kernel
theorem d_La_law_842 : decode b_La_law 842 = .ok (.aload_n 0, 1) := by decide +kernel
theorem d_La_law_843 : decode b_La_law 843 = .ok (.iload 4, 2) := by decide +kernel
theorem d_La_law_845 : decode b_La_law 845 = .ok (.iconst 1, 1) := by decide +kernel
theorem d_La_law_846 : decode b_La_law 846 = .ok (.iadd, 1) := by decide +kernel
theorem d_La_law_847 : decode b_La_law 847 = .ok (.iaload, 1) := by decide +kernel
theorem d_La_law_848 : decode b_La_law 848 = .ok (.aload_n 3, 1) := by decide +kernel
theorem d_La_law_849 : decode b_La_law 849 = .ok (.invokestatic 125, 3) := by decide +kernel
theorem d_La_law_852 : decode b_La_law 852 = .ok (.istore 5, 2) := by decide +kernel
theorem d_La_law_854 : decode b_La_law 854 = .ok (.aload_n 2, 1) := by decide +kernel
theorem d_La_law_855 : decode b_La_law 855 = .ok (.aload_n 0, 1) := by decide +kernel
theorem d_La_law_856 : decode b_La_law 856 = .ok (.iload 4, 2) := by decide +kernel
theorem d_La_law_858 : decode b_La_law 858 = .ok (.iconst 1, 1) := by decide +kernel
theorem d_La_law_859 : decode b_La_law 859 = .ok (.iadd, 1) := by decide +kernel
theorem d_La_law_860 : decode b_La_law 860 = .ok (.iaload, 1) := by decide +kernel
theorem d_La_law_861 : decode b_La_law 861 = .ok (.invokevirtual 127, 3) := by decide +kernel
theorem d_La_law_864 : decode b_La_law 864 = .ok (.istore 6, 2) := by decide +kernel
theorem d_La_law_866 : decode b_La_law 866 = .ok (.aload_n 2, 1) := by decide +kernel
theorem d_La_law_867 : decode b_La_law 867 = .ok (.invokevirtual 96, 3) := by decide +kernel
theorem d_La_law_870 : decode b_La_law 870 = .ok (.iload 5, 2) := by decide +kernel
theorem d_La_law_872 : decode b_La_law 872 = .ok (.if_icmp .eq 5, 3) := by decide +kernel
theorem d_La_law_875 : decode b_La_law 875 = .ok (.iconst 0, 1) := by decide +kernel
theorem d_La_law_876 : decode b_La_law 876 = .ok (.ireturn, 1) := by decide +kernel
theorem d_La_law_877 : decode b_La_law 877 = .ok (.iload 5, 2) := by decide +kernel
theorem d_La_law_879 : decode b_La_law 879 = .ok (.ifCond .ne 15, 3) := by decide +kernel
theorem d_La_law_882 : decode b_La_law 882 = .ok (.aload_n 3, 1) := by decide +kernel
theorem d_La_law_883 : decode b_La_law 883 = .ok (.iconst 0, 1) := by decide +kernel
theorem d_La_law_884 : decode b_La_law 884 = .ok (.laload, 1) := by decide +kernel
theorem d_La_law_885 : decode b_La_law 885 = .ok (.iload 6, 2) := by decide +kernel
theorem d_La_law_887 : decode b_La_law 887 = .ok (.i2l, 1) := by decide +kernel
theorem d_La_law_888 : decode b_La_law 888 = .ok (.lcmp, 1) := by decide +kernel
theorem d_La_law_889 : decode b_La_law 889 = .ok (.ifCond .eq 5, 3) := by decide +kernel
theorem d_La_law_892 : decode b_La_law 892 = .ok (.iconst 0, 1) := by decide +kernel
theorem d_La_law_893 : decode b_La_law 893 = .ok (.ireturn, 1) := by decide +kernel
theorem d_La_law_894 : decode b_La_law 894 = .ok (.goto 585, 3) := by decide +kernel
theorem d_La_law_897 : decode b_La_law 897 = .ok (.aload_n 1, 1) := by decide +kernel
theorem d_La_law_898 : decode b_La_law 898 = .ok (.invokevirtual 128, 3) := by decide +kernel
theorem d_La_law_901 : decode b_La_law 901 = .ok (.aload_n 2, 1) := by decide +kernel
theorem d_La_law_902 : decode b_La_law 902 = .ok (.invokevirtual 131, 3) := by decide +kernel
theorem d_La_law_905 : decode b_La_law 905 = .ok (.if_icmp .eq 574, 3) := by decide +kernel
theorem d_La_law_908 : decode b_La_law 908 = .ok (.iconst 0, 1) := by decide +kernel
theorem d_La_law_909 : decode b_La_law 909 = .ok (.ireturn, 1) := by decide +kernel
theorem d_La_law_910 : decode b_La_law 910 = .ok (.aload_n 1, 1) := by decide +kernel
theorem d_La_law_911 : decode b_La_law 911 = .ok (.aload_n 0, 1) := by decide +kernel
theorem d_La_law_912 : decode b_La_law 912 = .ok (.iload 4, 2) := by decide +kernel
theorem d_La_law_914 : decode b_La_law 914 = .ok (.iconst 1, 1) := by decide +kernel
theorem d_La_law_915 : decode b_La_law 915 = .ok (.iadd, 1) := by decide +kernel
theorem d_La_law_916 : decode b_La_law 916 = .ok (.iaload, 1) := by decide +kernel
theorem d_La_law_917 : decode b_La_law 917 = .ok (.aload_n 0, 1) := by decide +kernel
theorem d_La_law_918 : decode b_La_law 918 = .ok (.iload 4, 2) := by decide +kernel
theorem d_La_law_920 : decode b_La_law 920 = .ok (.iconst 2, 1) := by decide +kernel
theorem d_La_law_921 : decode b_La_law 921 = .ok (.iadd, 1) := by decide +kernel
theorem d_La_law_922 : decode b_La_law 922 = .ok (.iaload, 1) := by decide +kernel
theorem d_La_law_923 : decode b_La_law 923 = .ok (.aload_n 3, 1) := by decide +kernel
theorem d_La_law_924 : decode b_La_law 924 = .ok (.invokestatic 132, 3) := by decide +kernel
theorem d_La_law_927 : decode b_La_law 927 = .ok (.istore 5, 2) := by decide +kernel
theorem d_La_law_929 : decode b_La_law 929 = .ok (.aload_n 2, 1) := by decide +kernel
theorem d_La_law_930 : decode b_La_law 930 = .ok (.aload_n 0, 1) := by decide +kernel
theorem d_La_law_931 : decode b_La_law 931 = .ok (.iload 4, 2) := by decide +kernel
theorem d_La_law_933 : decode b_La_law 933 = .ok (.iconst 1, 1) := by decide +kernel
theorem d_La_law_934 : decode b_La_law 934 = .ok (.iadd, 1) := by decide +kernel
theorem d_La_law_935 : decode b_La_law 935 = .ok (.iaload, 1) := by decide +kernel
theorem d_La_law_936 : decode b_La_law 936 = .ok (.aload_n 0, 1) := by decide +kernel
theorem d_La_law_937 : decode b_La_law 937 = .ok (.iload 4, 2) := by decide +kernel
theorem d_La_law_939 : decode b_La_law 939 = .ok (.iconst 2, 1) := by decide +kernel
theorem d_La_law_940 : decode b_La_law 940 = .ok (.iadd, 1) := by decide +kernel
theorem d_La_law_941 : decode b_La_law 941 = .ok (.iaload, 1) := by decide +kernel
theorem d_La_law_942 : decode b_La_law 942 = .ok (.invokevirtual 134, 3) := by decide +kernel
theorem d_La_law_945 : decode b_La_law 945 = .ok (.istore 6, 2) := by decide +kernel
theorem d_La_law_947 : decode b_La_law 947 = .ok (.aload_n 2, 1) := by decide +kernel
theorem d_La_law_948 : decode b_La_law 948 = .ok (.invokevirtual 96, 3) := by decide +kernel
theorem d_La_law_951 : decode b_La_law 951 = .ok (.iload 5, 2) := by decide +kernel
theorem d_La_law_953 : decode b_La_law 953 = .ok (.if_icmp .eq 5, 3) := by decide +kernel
theorem d_La_law_956 : decode b_La_law 956 = .ok (.iconst 0, 1) := by decide +kernel
theorem d_La_law_957 : decode b_La_law 957 = .ok (.ireturn, 1) := by decide +kernel
theorem d_La_law_958 : decode b_La_law 958 = .ok (.iload 5, 2) := by decide +kernel
theorem d_La_law_960 : decode b_La_law 960 = .ok (.ifCond .ne 15, 3) := by decide +kernel
theorem d_La_law_963 : decode b_La_law 963 = .ok (.aload_n 3, 1) := by decide +kernel
theorem d_La_law_964 : decode b_La_law 964 = .ok (.iconst 0, 1) := by decide +kernel
theorem d_La_law_965 : decode b_La_law 965 = .ok (.laload, 1) := by decide +kernel
theorem d_La_law_966 : decode b_La_law 966 = .ok (.iload 6, 2) := by decide +kernel
theorem d_La_law_968 : decode b_La_law 968 = .ok (.i2l, 1) := by decide +kernel
theorem d_La_law_969 : decode b_La_law 969 = .ok (.lcmp, 1) := by decide +kernel
theorem d_La_law_970 : decode b_La_law 970 = .ok (.ifCond .eq 5, 3) := by decide +kernel
theorem d_La_law_973 : decode b_La_law 973 = .ok (.iconst 0, 1) := by decide +kernel
theorem d_La_law_974 : decode b_La_law 974 = .ok (.ireturn, 1) := by decide +kernel
theorem d_La_law_975 : decode b_La_law 975 = .ok (.goto 504, 3) := by decide +kernel
theorem d_La_law_978 : decode b_La_law 978 = .ok (.aload_n 1, 1) := by decide +kernel
theorem d_La_law_979 : decode b_La_law 979 = .ok (.aload_n 0, 1) := by decide +kernel
theorem d_La_law_980 : decode b_La_law 980 = .ok (.iload 4, 2) := by decide +kernel
theorem d_La_law_982 : decode b_La_law 982 = .ok (.iconst 1, 1) := by decide +kernel
theorem d_La_law_983 : decode b_La_law 983 = .ok (.iadd, 1) := by decide +kernel
theorem d_La_law_984 : decode b_La_law 984 = .ok (.iaload, 1) := by decide +kernel
theorem d_La_law_985 : decode b_La_law 985 = .ok (.aload_n 3, 1) := by decide +kernel
theorem d_La_law_986 : decode b_La_law 986 = .ok (.invokestatic 135, 3) := by decide +kernel
theorem d_La_law_989 : decode b_La_law 989 = .ok (.istore 5, 2) := by decide +kernel
theorem d_La_law_991 : decode b_La_law 991 = .ok (.aload_n 2, 1) := by decide +kernel
theorem d_La_law_992 : decode b_La_law 992 = .ok (.aload_n 0, 1) := by decide +kernel
theorem d_La_law_993 : decode b_La_law 993 = .ok (.iload 4, 2) := by decide +kernel
theorem d_La_law_995 : decode b_La_law 995 = .ok (.iconst 1, 1) := by decide +kernel
theorem d_La_law_996 : decode b_La_law 996 = .ok (.iadd, 1) := by decide +kernel
theorem d_La_law_997 : decode b_La_law 997 = .ok (.iaload, 1) := by decide +kernel
theorem d_La_law_998 : decode b_La_law 998 = .ok (.invokevirtual 137, 3) := by decide +kernel
theorem d_La_law_1001 : decode b_La_law 1001 = .ok (.istore 6, 2) := by decide +kernel
theorem d_La_law_1003 : decode b_La_law 1003 = .ok (.aload_n 2, 1) := by decide +kernel
theorem d_La_law_1004 : decode b_La_law 1004 = .ok (.invokevirtual 96, 3) := by decide +kernel
theorem d_La_law_1007 : decode b_La_law 1007 = .ok (.iload 5, 2) := by decide +kernel
theorem d_La_law_1009 : decode b_La_law 1009 = .ok (.if_icmp .eq 5, 3) := by decide +kernel
theorem d_La_law_1012 : decode b_La_law 1012 = .ok (.iconst 0, 1) := by decide +kernel
theorem d_La_law_1013 : decode b_La_law 1013 = .ok (.ireturn, 1) := by decide +kernel
theorem d_La_law_1014 : decode b_La_law 1014 = .ok (.iload 5, 2) := by decide +kernel
theorem d_La_law_1016 : decode b_La_law 1016 = .ok (.ifCond .ne 15, 3) := by decide +kernel
theorem d_La_law_1019 : decode b_La_law 1019 = .ok (.aload_n 3, 1) := by decide +kernel
theorem d_La_law_1020 : decode b_La_law 1020 = .ok (.iconst 0, 1) := by decide +kernel
theorem d_La_law_1021 : decode b_La_law 1021 = .ok (.laload, 1) := by decide +kernel
theorem d_La_law_1022 : decode b_La_law 1022 = .ok (.iload 6, 2) := by decide +kernel
theorem d_La_law_1024 : decode b_La_law 1024 = .ok (.i2l, 1) := by decide +kernel
theorem d_La_law_1025 : decode b_La_law 1025 = .ok (.lcmp, 1) := by decide +kernel
theorem d_La_law_1026 : decode b_La_law 1026 = .ok (.ifCond .eq 5, 3) := by decide +kernel
theorem d_La_law_1029 : decode b_La_law 1029 = .ok (.iconst 0, 1) := by decide +kernel
theorem d_La_law_1030 : decode b_La_law 1030 = .ok (.ireturn, 1) := by decide +kernel
theorem d_La_law_1031 : decode b_La_law 1031 = .ok (.goto 448, 3) := by decide +kernel
theorem d_La_law_1034 : decode b_La_law 1034 = .ok (.aload_n 1, 1) := by decide +kernel
theorem d_La_law_1035 : decode b_La_law 1035 = .ok (.aload_n 0, 1) := by decide +kernel
theorem d_La_law_1036 : decode b_La_law 1036 = .ok (.iload 4, 2) := by decide +kernel
theorem d_La_law_1038 : decode b_La_law 1038 = .ok (.iconst 1, 1) := by decide +kernel
theorem d_La_law_1039 : decode b_La_law 1039 = .ok (.iadd, 1) := by decide +kernel
theorem d_La_law_1040 : decode b_La_law 1040 = .ok (.iaload, 1) := by decide +kernel
theorem d_La_law_1041 : decode b_La_law 1041 = .ok (.aload_n 0, 1) := by decide +kernel
theorem d_La_law_1042 : decode b_La_law 1042 = .ok (.iload 4, 2) := by decide +kernel
theorem d_La_law_1044 : decode b_La_law 1044 = .ok (.iconst 2, 1) := by decide +kernel
theorem d_La_law_1045 : decode b_La_law 1045 = .ok (.iadd, 1) := by decide +kernel
theorem d_La_law_1046 : decode b_La_law 1046 = .ok (.iaload, 1) := by decide +kernel
theorem d_La_law_1047 : decode b_La_law 1047 = .ok (.aload_n 3, 1) := by decide +kernel
theorem d_La_law_1048 : decode b_La_law 1048 = .ok (.invokestatic 138, 3) := by decide +kernel
theorem d_La_law_1051 : decode b_La_law 1051 = .ok (.istore 5, 2) := by decide +kernel
theorem d_La_law_1053 : decode b_La_law 1053 = .ok (.aload_n 2, 1) := by decide +kernel
theorem d_La_law_1054 : decode b_La_law 1054 = .ok (.aload_n 0, 1) := by decide +kernel
theorem d_La_law_1055 : decode b_La_law 1055 = .ok (.iload 4, 2) := by decide +kernel
theorem d_La_law_1057 : decode b_La_law 1057 = .ok (.iconst 1, 1) := by decide +kernel
theorem d_La_law_1058 : decode b_La_law 1058 = .ok (.iadd, 1) := by decide +kernel
theorem d_La_law_1059 : decode b_La_law 1059 = .ok (.iaload, 1) := by decide +kernel
theorem d_La_law_1060 : decode b_La_law 1060 = .ok (.aload_n 0, 1) := by decide +kernel
theorem d_La_law_1061 : decode b_La_law 1061 = .ok (.iload 4, 2) := by decide +kernel
theorem d_La_law_1063 : decode b_La_law 1063 = .ok (.iconst 2, 1) := by decide +kernel
theorem d_La_law_1064 : decode b_La_law 1064 = .ok (.iadd, 1) := by decide +kernel
theorem d_La_law_1065 : decode b_La_law 1065 = .ok (.iaload, 1) := by decide +kernel
theorem d_La_law_1066 : decode b_La_law 1066 = .ok (.invokevirtual 140, 3) := by decide +kernel
theorem d_La_law_1069 : decode b_La_law 1069 = .ok (.istore 6, 2) := by decide +kernel
theorem d_La_law_1071 : decode b_La_law 1071 = .ok (.aload_n 2, 1) := by decide +kernel
theorem d_La_law_1072 : decode b_La_law 1072 = .ok (.invokevirtual 96, 3) := by decide +kernel
theorem d_La_law_1075 : decode b_La_law 1075 = .ok (.iload 5, 2) := by decide +kernel
theorem d_La_law_1077 : decode b_La_law 1077 = .ok (.if_icmp .eq 5, 3) := by decide +kernel
theorem d_La_law_1080 : decode b_La_law 1080 = .ok (.iconst 0, 1) := by decide +kernel
theorem d_La_law_1081 : decode b_La_law 1081 = .ok (.ireturn, 1) := by decide +kernel
theorem d_La_law_1082 : decode b_La_law 1082 = .ok (.iload 5, 2) := by decide +kernel
theorem d_La_law_1084 : decode b_La_law 1084 = .ok (.ifCond .ne 15, 3) := by decide +kernel
theorem d_La_law_1087 : decode b_La_law 1087 = .ok (.aload_n 3, 1) := by decide +kernel
theorem d_La_law_1088 : decode b_La_law 1088 = .ok (.iconst 0, 1) := by decide +kernel
theorem d_La_law_1089 : decode b_La_law 1089 = .ok (.laload, 1) := by decide +kernel
theorem d_La_law_1090 : decode b_La_law 1090 = .ok (.iload 6, 2) := by decide +kernel
theorem d_La_law_1092 : decode b_La_law 1092 = .ok (.i2l, 1) := by decide +kernel
theorem d_La_law_1093 : decode b_La_law 1093 = .ok (.lcmp, 1) := by decide +kernel
theorem d_La_law_1094 : decode b_La_law 1094 = .ok (.ifCond .eq 5, 3) := by decide +kernel
theorem d_La_law_1097 : decode b_La_law 1097 = .ok (.iconst 0, 1) := by decide +kernel
theorem d_La_law_1098 : decode b_La_law 1098 = .ok (.ireturn, 1) := by decide +kernel
theorem d_La_law_1099 : decode b_La_law 1099 = .ok (.goto 380, 3) := by decide +kernel
theorem d_La_law_1102 : decode b_La_law 1102 = .ok (.aload_n 1, 1) := by decide +kernel
theorem d_La_law_1103 : decode b_La_law 1103 = .ok (.aload_n 0, 1) := by decide +kernel
theorem d_La_law_1104 : decode b_La_law 1104 = .ok (.iload 4, 2) := by decide +kernel
theorem d_La_law_1106 : decode b_La_law 1106 = .ok (.iconst 1, 1) := by decide +kernel
theorem d_La_law_1107 : decode b_La_law 1107 = .ok (.iadd, 1) := by decide +kernel
theorem d_La_law_1108 : decode b_La_law 1108 = .ok (.iaload, 1) := by decide +kernel
theorem d_La_law_1109 : decode b_La_law 1109 = .ok (.aload_n 3, 1) := by decide +kernel
theorem d_La_law_1110 : decode b_La_law 1110 = .ok (.invokestatic 141, 3) := by decide +kernel
theorem d_La_law_1113 : decode b_La_law 1113 = .ok (.istore 5, 2) := by decide +kernel
theorem d_La_law_1115 : decode b_La_law 1115 = .ok (.aload_n 2, 1) := by decide +kernel
theorem d_La_law_1116 : decode b_La_law 1116 = .ok (.aload_n 0, 1) := by decide +kernel
theorem d_La_law_1117 : decode b_La_law 1117 = .ok (.iload 4, 2) := by decide +kernel
theorem d_La_law_1119 : decode b_La_law 1119 = .ok (.iconst 1, 1) := by decide +kernel
theorem d_La_law_1120 : decode b_La_law 1120 = .ok (.iadd, 1) := by decide +kernel
theorem d_La_law_1121 : decode b_La_law 1121 = .ok (.iaload, 1) := by decide +kernel
theorem d_La_law_1122 : decode b_La_law 1122 = .ok (.invokevirtual 143, 3) := by decide +kernel
theorem d_La_law_1125 : decode b_La_law 1125 = .ok (.istore 6, 2) := by decide +kernel
theorem d_La_law_1127 : decode b_La_law 1127 = .ok (.aload_n 2, 1) := by decide +kernel
theorem d_La_law_1128 : decode b_La_law 1128 = .ok (.invokevirtual 96, 3) := by decide +kernel
theorem d_La_law_1131 : decode b_La_law 1131 = .ok (.iload 5, 2) := by decide +kernel
theorem d_La_law_1133 : decode b_La_law 1133 = .ok (.if_icmp .eq 5, 3) := by decide +kernel
theorem d_La_law_1136 : decode b_La_law 1136 = .ok (.iconst 0, 1) := by decide +kernel
theorem d_La_law_1137 : decode b_La_law 1137 = .ok (.ireturn, 1) := by decide +kernel
theorem d_La_law_1138 : decode b_La_law 1138 = .ok (.iload 5, 2) := by decide +kernel
theorem d_La_law_1140 : decode b_La_law 1140 = .ok (.ifCond .ne 15, 3) := by decide +kernel
theorem d_La_law_1143 : decode b_La_law 1143 = .ok (.aload_n 3, 1) := by decide +kernel
theorem d_La_law_1144 : decode b_La_law 1144 = .ok (.iconst 0, 1) := by decide +kernel
theorem d_La_law_1145 : decode b_La_law 1145 = .ok (.laload, 1) := by decide +kernel
theorem d_La_law_1146 : decode b_La_law 1146 = .ok (.iload 6, 2) := by decide +kernel
theorem d_La_law_1148 : decode b_La_law 1148 = .ok (.i2l, 1) := by decide +kernel
theorem d_La_law_1149 : decode b_La_law 1149 = .ok (.lcmp, 1) := by decide +kernel
theorem d_La_law_1150 : decode b_La_law 1150 = .ok (.ifCond .eq 5, 3) := by decide +kernel
theorem d_La_law_1153 : decode b_La_law 1153 = .ok (.iconst 0, 1) := by decide +kernel
theorem d_La_law_1154 : decode b_La_law 1154 = .ok (.ireturn, 1) := by decide +kernel
theorem d_La_law_1155 : decode b_La_law 1155 = .ok (.goto 324, 3) := by decide +kernel
theorem d_La_law_1158 : decode b_La_law 1158 = .ok (.aload_n 1, 1) := by decide +kernel
theorem d_La_law_1159 : decode b_La_law 1159 = .ok (.aload_n 0, 1) := by decide +kernel
theorem d_La_law_1160 : decode b_La_law 1160 = .ok (.iload 4, 2) := by decide +kernel
theorem d_La_law_1162 : decode b_La_law 1162 = .ok (.iconst 1, 1) := by decide +kernel
theorem d_La_law_1163 : decode b_La_law 1163 = .ok (.iadd, 1) := by decide +kernel
theorem d_La_law_1164 : decode b_La_law 1164 = .ok (.iaload, 1) := by decide +kernel
theorem d_La_law_1165 : decode b_La_law 1165 = .ok (.aload_n 0, 1) := by decide +kernel
theorem d_La_law_1166 : decode b_La_law 1166 = .ok (.iload 4, 2) := by decide +kernel
theorem d_La_law_1168 : decode b_La_law 1168 = .ok (.iconst 2, 1) := by decide +kernel
theorem d_La_law_1169 : decode b_La_law 1169 = .ok (.iadd, 1) := by decide +kernel
theorem d_La_law_1170 : decode b_La_law 1170 = .ok (.iaload, 1) := by decide +kernel
theorem d_La_law_1171 : decode b_La_law 1171 = .ok (.aload_n 0, 1) := by decide +kernel
theorem d_La_law_1172 : decode b_La_law 1172 = .ok (.iload 4, 2) := by decide +kernel
theorem d_La_law_1174 : decode b_La_law 1174 = .ok (.iconst 3, 1) := by decide +kernel
theorem d_La_law_1175 : decode b_La_law 1175 = .ok (.iadd, 1) := by decide +kernel
theorem d_La_law_1176 : decode b_La_law 1176 = .ok (.iaload, 1) := by decide +kernel
theorem d_La_law_1177 : decode b_La_law 1177 = .ok (.aload_n 0, 1) := by decide +kernel
theorem d_La_law_1178 : decode b_La_law 1178 = .ok (.iload 4, 2) := by decide +kernel
theorem d_La_law_1180 : decode b_La_law 1180 = .ok (.iconst 4, 1) := by decide +kernel
theorem d_La_law_1181 : decode b_La_law 1181 = .ok (.iadd, 1) := by decide +kernel
theorem d_La_law_1182 : decode b_La_law 1182 = .ok (.iaload, 1) := by decide +kernel
theorem d_La_law_1183 : decode b_La_law 1183 = .ok (.invokevirtual 144, 3) := by decide +kernel
theorem d_La_law_1186 : decode b_La_law 1186 = .ok (.aload_n 2, 1) := by decide +kernel
theorem d_La_law_1187 : decode b_La_law 1187 = .ok (.aload_n 0, 1) := by decide +kernel
theorem d_La_law_1188 : decode b_La_law 1188 = .ok (.iload 4, 2) := by decide +kernel
theorem d_La_law_1190 : decode b_La_law 1190 = .ok (.iconst 1, 1) := by decide +kernel
theorem d_La_law_1191 : decode b_La_law 1191 = .ok (.iadd, 1) := by decide +kernel
theorem d_La_law_1192 : decode b_La_law 1192 = .ok (.iaload, 1) := by decide +kernel
theorem d_La_law_1193 : decode b_La_law 1193 = .ok (.aload_n 0, 1) := by decide +kernel
theorem d_La_law_1194 : decode b_La_law 1194 = .ok (.iload 4, 2) := by decide +kernel
theorem d_La_law_1196 : decode b_La_law 1196 = .ok (.iconst 2, 1) := by decide +kernel
theorem d_La_law_1197 : decode b_La_law 1197 = .ok (.iadd, 1) := by decide +kernel
theorem d_La_law_1198 : decode b_La_law 1198 = .ok (.iaload, 1) := by decide +kernel
theorem d_La_law_1199 : decode b_La_law 1199 = .ok (.aload_n 0, 1) := by decide +kernel
theorem d_La_law_1200 : decode b_La_law 1200 = .ok (.iload 4, 2) := by decide +kernel
theorem d_La_law_1202 : decode b_La_law 1202 = .ok (.iconst 3, 1) := by decide +kernel
theorem d_La_law_1203 : decode b_La_law 1203 = .ok (.iadd, 1) := by decide +kernel
theorem d_La_law_1204 : decode b_La_law 1204 = .ok (.iaload, 1) := by decide +kernel
theorem d_La_law_1205 : decode b_La_law 1205 = .ok (.aload_n 0, 1) := by decide +kernel
theorem d_La_law_1206 : decode b_La_law 1206 = .ok (.iload 4, 2) := by decide +kernel
theorem d_La_law_1208 : decode b_La_law 1208 = .ok (.iconst 4, 1) := by decide +kernel
theorem d_La_law_1209 : decode b_La_law 1209 = .ok (.iadd, 1) := by decide +kernel
theorem d_La_law_1210 : decode b_La_law 1210 = .ok (.iaload, 1) := by decide +kernel
theorem d_La_law_1211 : decode b_La_law 1211 = .ok (.invokevirtual 147, 3) := by decide +kernel
theorem d_La_law_1214 : decode b_La_law 1214 = .ok (.if_icmp .eq 265, 3) := by decide +kernel
theorem d_La_law_1217 : decode b_La_law 1217 = .ok (.iconst 0, 1) := by decide +kernel
theorem d_La_law_1218 : decode b_La_law 1218 = .ok (.ireturn, 1) := by decide +kernel
theorem d_La_law_1219 : decode b_La_law 1219 = .ok (.aload_n 1, 1) := by decide +kernel
theorem d_La_law_1220 : decode b_La_law 1220 = .ok (.aload_n 0, 1) := by decide +kernel
theorem d_La_law_1221 : decode b_La_law 1221 = .ok (.iload 4, 2) := by decide +kernel
theorem d_La_law_1223 : decode b_La_law 1223 = .ok (.iconst 1, 1) := by decide +kernel
theorem d_La_law_1224 : decode b_La_law 1224 = .ok (.iadd, 1) := by decide +kernel
theorem d_La_law_1225 : decode b_La_law 1225 = .ok (.iaload, 1) := by decide +kernel
theorem d_La_law_1226 : decode b_La_law 1226 = .ok (.aload_n 3, 1) := by decide +kernel
theorem d_La_law_1227 : decode b_La_law 1227 = .ok (.invokestatic 148, 3) := by decide +kernel
theorem d_La_law_1230 : decode b_La_law 1230 = .ok (.istore 5, 2) := by decide +kernel
theorem d_La_law_1232 : decode b_La_law 1232 = .ok (.aload_n 2, 1) := by decide +kernel
theorem d_La_law_1233 : decode b_La_law 1233 = .ok (.aload_n 0, 1) := by decide +kernel
theorem d_La_law_1234 : decode b_La_law 1234 = .ok (.iload 4, 2) := by decide +kernel
theorem d_La_law_1236 : decode b_La_law 1236 = .ok (.iconst 1, 1) := by decide +kernel
theorem d_La_law_1237 : decode b_La_law 1237 = .ok (.iadd, 1) := by decide +kernel
theorem d_La_law_1238 : decode b_La_law 1238 = .ok (.iaload, 1) := by decide +kernel
theorem d_La_law_1239 : decode b_La_law 1239 = .ok (.invokevirtual 150, 3) := by decide +kernel
theorem d_La_law_1242 : decode b_La_law 1242 = .ok (.istore 6, 2) := by decide +kernel
theorem d_La_law_1244 : decode b_La_law 1244 = .ok (.aload_n 2, 1) := by decide +kernel
theorem d_La_law_1245 : decode b_La_law 1245 = .ok (.invokevirtual 96, 3) := by decide +kernel
theorem d_La_law_1248 : decode b_La_law 1248 = .ok (.iload 5, 2) := by decide +kernel
theorem d_La_law_1250 : decode b_La_law 1250 = .ok (.if_icmp .eq 5, 3) := by decide +kernel
theorem d_La_law_1253 : decode b_La_law 1253 = .ok (.iconst 0, 1) := by decide +kernel
theorem d_La_law_1254 : decode b_La_law 1254 = .ok (.ireturn, 1) := by decide +kernel
theorem d_La_law_1255 : decode b_La_law 1255 = .ok (.iload 5, 2) := by decide +kernel
theorem d_La_law_1257 : decode b_La_law 1257 = .ok (.ifCond .ne 22, 3) := by decide +kernel
theorem d_La_law_1260 : decode b_La_law 1260 = .ok (.aload_n 3, 1) := by decide +kernel
theorem d_La_law_1261 : decode b_La_law 1261 = .ok (.iconst 0, 1) := by decide +kernel
theorem d_La_law_1262 : decode b_La_law 1262 = .ok (.laload, 1) := by decide +kernel
theorem d_La_law_1263 : decode b_La_law 1263 = .ok (.iload 6, 2) := by decide +kernel
theorem d_La_law_1265 : decode b_La_law 1265 = .ok (.ifCond .eq 7, 3) := by decide +kernel
theorem d_La_law_1268 : decode b_La_law 1268 = .ok (.lconst 1, 1) := by decide +kernel
theorem d_La_law_1269 : decode b_La_law 1269 = .ok (.goto 4, 3) := by decide +kernel
theorem d_La_law_1272 : decode b_La_law 1272 = .ok (.lconst 0, 1) := by decide +kernel
theorem d_La_law_1273 : decode b_La_law 1273 = .ok (.lcmp, 1) := by decide +kernel
theorem d_La_law_1274 : decode b_La_law 1274 = .ok (.ifCond .eq 5, 3) := by decide +kernel
theorem d_La_law_1277 : decode b_La_law 1277 = .ok (.iconst 0, 1) := by decide +kernel
theorem d_La_law_1278 : decode b_La_law 1278 = .ok (.ireturn, 1) := by decide +kernel
theorem d_La_law_1279 : decode b_La_law 1279 = .ok (.goto 200, 3) := by decide +kernel
theorem d_La_law_1282 : decode b_La_law 1282 = .ok (.aload_n 1, 1) := by decide +kernel
theorem d_La_law_1283 : decode b_La_law 1283 = .ok (.aload_n 0, 1) := by decide +kernel
theorem d_La_law_1284 : decode b_La_law 1284 = .ok (.iload 4, 2) := by decide +kernel
theorem d_La_law_1286 : decode b_La_law 1286 = .ok (.iconst 1, 1) := by decide +kernel
theorem d_La_law_1287 : decode b_La_law 1287 = .ok (.iadd, 1) := by decide +kernel
theorem d_La_law_1288 : decode b_La_law 1288 = .ok (.iaload, 1) := by decide +kernel
theorem d_La_law_1289 : decode b_La_law 1289 = .ok (.aload_n 0, 1) := by decide +kernel
theorem d_La_law_1290 : decode b_La_law 1290 = .ok (.iload 4, 2) := by decide +kernel
theorem d_La_law_1292 : decode b_La_law 1292 = .ok (.iconst 2, 1) := by decide +kernel
theorem d_La_law_1293 : decode b_La_law 1293 = .ok (.iadd, 1) := by decide +kernel
theorem d_La_law_1294 : decode b_La_law 1294 = .ok (.iaload, 1) := by decide +kernel
theorem d_La_law_1295 : decode b_La_law 1295 = .ok (.ifCond .eq 7, 3) := by decide +kernel
theorem d_La_law_1298 : decode b_La_law 1298 = .ok (.iconst 1, 1) := by decide +kernel
theorem d_La_law_1299 : decode b_La_law 1299 = .ok (.goto 4, 3) := by decide +kernel
theorem d_La_law_1302 : decode b_La_law 1302 = .ok (.iconst 0, 1) := by decide +kernel
theorem d_La_law_1303 : decode b_La_law 1303 = .ok (.aload_n 3, 1) := by decide +kernel
theorem d_La_law_1304 : decode b_La_law 1304 = .ok (.invokestatic 151, 3) := by decide +kernel
theorem d_La_law_1307 : decode b_La_law 1307 = .ok (.istore 5, 2) := by decide +kernel
theorem d_La_law_1309 : decode b_La_law 1309 = .ok (.aload_n 2, 1) := by decide +kernel
theorem d_La_law_1310 : decode b_La_law 1310 = .ok (.aload_n 0, 1) := by decide +kernel
theorem d_La_law_1311 : decode b_La_law 1311 = .ok (.iload 4, 2) := by decide +kernel
theorem d_La_law_1313 : decode b_La_law 1313 = .ok (.iconst 1, 1) := by decide +kernel
theorem d_La_law_1314 : decode b_La_law 1314 = .ok (.iadd, 1) := by decide +kernel
theorem d_La_law_1315 : decode b_La_law 1315 = .ok (.iaload, 1) := by decide +kernel
theorem d_La_law_1316 : decode b_La_law 1316 = .ok (.aload_n 0, 1) := by decide +kernel
theorem d_La_law_1317 : decode b_La_law 1317 = .ok (.iload 4, 2) := by decide +kernel
theorem d_La_law_1319 : decode b_La_law 1319 = .ok (.iconst 2, 1) := by decide +kernel
theorem d_La_law_1320 : decode b_La_law 1320 = .ok (.iadd, 1) := by decide +kernel
theorem d_La_law_1321 : decode b_La_law 1321 = .ok (.iaload, 1) := by decide +kernel
theorem d_La_law_1322 : decode b_La_law 1322 = .ok (.ifCond .eq 7, 3) := by decide +kernel
theorem d_La_law_1325 : decode b_La_law 1325 = .ok (.iconst 1, 1) := by decide +kernel
theorem d_La_law_1326 : decode b_La_law 1326 = .ok (.goto 4, 3) := by decide +kernel
theorem d_La_law_1329 : decode b_La_law 1329 = .ok (.iconst 0, 1) := by decide +kernel
theorem d_La_law_1330 : decode b_La_law 1330 = .ok (.invokevirtual 154, 3) := by decide +kernel
theorem d_La_law_1333 : decode b_La_law 1333 = .ok (.istore 6, 2) := by decide +kernel
theorem d_La_law_1335 : decode b_La_law 1335 = .ok (.aload_n 2, 1) := by decide +kernel
theorem d_La_law_1336 : decode b_La_law 1336 = .ok (.invokevirtual 96, 3) := by decide +kernel
theorem d_La_law_1339 : decode b_La_law 1339 = .ok (.iload 5, 2) := by decide +kernel
theorem d_La_law_1341 : decode b_La_law 1341 = .ok (.if_icmp .eq 5, 3) := by decide +kernel
theorem d_La_law_1344 : decode b_La_law 1344 = .ok (.iconst 0, 1) := by decide +kernel
theorem d_La_law_1345 : decode b_La_law 1345 = .ok (.ireturn, 1) := by decide +kernel
theorem d_La_law_1346 : decode b_La_law 1346 = .ok (.iload 5, 2) := by decide +kernel
theorem d_La_law_1348 : decode b_La_law 1348 = .ok (.ifCond .ne 15, 3) := by decide +kernel
theorem d_La_law_1351 : decode b_La_law 1351 = .ok (.aload_n 3, 1) := by decide +kernel
theorem d_La_law_1352 : decode b_La_law 1352 = .ok (.iconst 0, 1) := by decide +kernel
theorem d_La_law_1353 : decode b_La_law 1353 = .ok (.laload, 1) := by decide +kernel
theorem d_La_law_1354 : decode b_La_law 1354 = .ok (.iload 6, 2) := by decide +kernel
theorem d_La_law_1356 : decode b_La_law 1356 = .ok (.i2l, 1) := by decide +kernel
theorem d_La_law_1357 : decode b_La_law 1357 = .ok (.lcmp, 1) := by decide +kernel
theorem d_La_law_1358 : decode b_La_law 1358 = .ok (.ifCond .eq 5, 3) := by decide +kernel
theorem d_La_law_1361 : decode b_La_law 1361 = .ok (.iconst 0, 1) := by decide +kernel
theorem d_La_law_1362 : decode b_La_law 1362 = .ok (.ireturn, 1) := by decide +kernel
theorem d_La_law_1363 : decode b_La_law 1363 = .ok (.goto 116, 3) := by decide +kernel
theorem d_La_law_1366 : decode b_La_law 1366 = .ok (.aload_n 1, 1) := by decide +kernel
theorem d_La_law_1367 : decode b_La_law 1367 = .ok (.aload_n 3, 1) := by decide +kernel
theorem d_La_law_1368 : decode b_La_law 1368 = .ok (.invokestatic 155, 3) := by decide +kernel
theorem d_La_law_1371 : decode b_La_law 1371 = .ok (.istore 5, 2) := by decide +kernel
theorem d_La_law_1373 : decode b_La_law 1373 = .ok (.aload_n 2, 1) := by decide +kernel
theorem d_La_law_1374 : decode b_La_law 1374 = .ok (.invokevirtual 158, 3) := by decide +kernel
theorem d_La_law_1377 : decode b_La_law 1377 = .ok (.istore 6, 2) := by decide +kernel
theorem d_La_law_1379 : decode b_La_law 1379 = .ok (.aload_n 2, 1) := by decide +kernel
theorem d_La_law_1380 : decode b_La_law 1380 = .ok (.invokevirtual 96, 3) := by decide +kernel
theorem d_La_law_1383 : decode b_La_law 1383 = .ok (.iload 5, 2) := by decide +kernel
theorem d_La_law_1385 : decode b_La_law 1385 = .ok (.if_icmp .eq 5, 3) := by decide +kernel
theorem d_La_law_1388 : decode b_La_law 1388 = .ok (.iconst 0, 1) := by decide +kernel
theorem d_La_law_1389 : decode b_La_law 1389 = .ok (.ireturn, 1) := by decide +kernel
theorem d_La_law_1390 : decode b_La_law 1390 = .ok (.iload 5, 2) := by decide +kernel
theorem d_La_law_1392 : decode b_La_law 1392 = .ok (.ifCond .ne 15, 3) := by decide +kernel
theorem d_La_law_1395 : decode b_La_law 1395 = .ok (.aload_n 3, 1) := by decide +kernel
theorem d_La_law_1396 : decode b_La_law 1396 = .ok (.iconst 0, 1) := by decide +kernel
theorem d_La_law_1397 : decode b_La_law 1397 = .ok (.laload, 1) := by decide +kernel
theorem d_La_law_1398 : decode b_La_law 1398 = .ok (.iload 6, 2) := by decide +kernel
theorem d_La_law_1400 : decode b_La_law 1400 = .ok (.i2l, 1) := by decide +kernel
theorem d_La_law_1401 : decode b_La_law 1401 = .ok (.lcmp, 1) := by decide +kernel
theorem d_La_law_1402 : decode b_La_law 1402 = .ok (.ifCond .eq 5, 3) := by decide +kernel
theorem d_La_law_1405 : decode b_La_law 1405 = .ok (.iconst 0, 1) := by decide +kernel
theorem d_La_law_1406 : decode b_La_law 1406 = .ok (.ireturn, 1) := by decide +kernel
theorem d_La_law_1407 : decode b_La_law 1407 = .ok (.goto 72, 3) := by decide +kernel
theorem d_La_law_1410 : decode b_La_law 1410 = .ok (.aload_n 1, 1) := by decide +kernel
theorem d_La_law_1411 : decode b_La_law 1411 = .ok (.aload_n 0, 1) := by decide +kernel
theorem d_La_law_1412 : decode b_La_law 1412 = .ok (.iload 4, 2) := by decide +kernel
theorem d_La_law_1414 : decode b_La_law 1414 = .ok (.iconst 1, 1) := by decide +kernel
theorem d_La_law_1415 : decode b_La_law 1415 = .ok (.iadd, 1) := by decide +kernel
theorem d_La_law_1416 : decode b_La_law 1416 = .ok (.iaload, 1) := by decide +kernel
theorem d_La_law_1417 : decode b_La_law 1417 = .ok (.aload_n 3, 1) := by decide +kernel
theorem d_La_law_1418 : decode b_La_law 1418 = .ok (.invokestatic 159, 3) := by decide +kernel
theorem d_La_law_1421 : decode b_La_law 1421 = .ok (.istore 5, 2) := by decide +kernel
theorem d_La_law_1423 : decode b_La_law 1423 = .ok (.aload_n 2, 1) := by decide +kernel
theorem d_La_law_1424 : decode b_La_law 1424 = .ok (.aload_n 0, 1) := by decide +kernel
theorem d_La_law_1425 : decode b_La_law 1425 = .ok (.iload 4, 2) := by decide +kernel
theorem d_La_law_1427 : decode b_La_law 1427 = .ok (.iconst 1, 1) := by decide +kernel
theorem d_La_law_1428 : decode b_La_law 1428 = .ok (.iadd, 1) := by decide +kernel
theorem d_La_law_1429 : decode b_La_law 1429 = .ok (.iaload, 1) := by decide +kernel
theorem d_La_law_1430 : decode b_La_law 1430 = .ok (.invokevirtual 161, 3) := by decide +kernel
theorem d_La_law_1433 : decode b_La_law 1433 = .ok (.istore 6, 2) := by decide +kernel
theorem d_La_law_1435 : decode b_La_law 1435 = .ok (.aload_n 2, 1) := by decide +kernel
theorem d_La_law_1436 : decode b_La_law 1436 = .ok (.invokevirtual 96, 3) := by decide +kernel
theorem d_La_law_1439 : decode b_La_law 1439 = .ok (.iload 5, 2) := by decide +kernel
theorem d_La_law_1441 : decode b_La_law 1441 = .ok (.if_icmp .eq 5, 3) := by decide +kernel
theorem d_La_law_1444 : decode b_La_law 1444 = .ok (.iconst 0, 1) := by decide +kernel
theorem d_La_law_1445 : decode b_La_law 1445 = .ok (.ireturn, 1) := by decide +kernel
theorem d_La_law_1446 : decode b_La_law 1446 = .ok (.iload 5, 2) := by decide +kernel
theorem d_La_law_1448 : decode b_La_law 1448 = .ok (.ifCond .ne 15, 3) := by decide +kernel
theorem d_La_law_1451 : decode b_La_law 1451 = .ok (.aload_n 3, 1) := by decide +kernel
theorem d_La_law_1452 : decode b_La_law 1452 = .ok (.iconst 0, 1) := by decide +kernel
theorem d_La_law_1453 : decode b_La_law 1453 = .ok (.laload, 1) := by decide +kernel
theorem d_La_law_1454 : decode b_La_law 1454 = .ok (.iload 6, 2) := by decide +kernel
theorem d_La_law_1456 : decode b_La_law 1456 = .ok (.i2l, 1) := by decide +kernel
theorem d_La_law_1457 : decode b_La_law 1457 = .ok (.lcmp, 1) := by decide +kernel
theorem d_La_law_1458 : decode b_La_law 1458 = .ok (.ifCond .eq 5, 3) := by decide +kernel
theorem d_La_law_1461 : decode b_La_law 1461 = .ok (.iconst 0, 1) := by decide +kernel
theorem d_La_law_1462 : decode b_La_law 1462 = .ok (.ireturn, 1) := by decide +kernel
theorem d_La_law_1463 : decode b_La_law 1463 = .ok (.goto 16, 3) := by decide +kernel
theorem d_La_law_1466 : decode b_La_law 1466 = .ok (.aload_n 1, 1) := by decide +kernel
theorem d_La_law_1467 : decode b_La_law 1467 = .ok (.invokevirtual 162, 3) := by decide +kernel
theorem d_La_law_1470 : decode b_La_law 1470 = .ok (.aload_n 2, 1) := by decide +kernel
theorem d_La_law_1471 : decode b_La_law 1471 = .ok (.invokevirtual 165, 3) := by decide +kernel
theorem d_La_law_1474 : decode b_La_law 1474 = .ok (.if_icmp .eq 5, 3) := by decide +kernel
theorem d_La_law_1477 : decode b_La_law 1477 = .ok (.iconst 0, 1) := by decide +kernel
theorem d_La_law_1478 : decode b_La_law 1478 = .ok (.ireturn, 1) := by decide +kernel
theorem d_La_law_1479 : decode b_La_law 1479 = .ok (.iinc 4 7, 3) := by decide +kernel
theorem d_La_law_1482 : decode b_La_law 1482 = .ok (.goto (-1439), 3) := by decide +kernel
theorem d_La_law_1485 : decode b_La_law 1485 = .ok (.iconst 1, 1) := by decide +kernel
theorem d_La_law_1486 : decode b_La_law 1486 = .ok (.ireturn, 1) := by decide +kernel
