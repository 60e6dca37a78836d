theorem d_Ar_init_0 : decode b_Ar_init 0 = .ok (.aload_n 0, 1) := by decide +kernel
theorem d_Ar_init_1 : decode b_Ar_init 1 = .ok (.invokespecial 1, 3) := by decide +kernel
theorem d_Ar_init_4 : decode b_Ar_init 4 = .ok (.aload_n 0, 1) := by decide +kernel
theorem d_Ar_init_5 : decode b_Ar_init 5 = .ok (.iload_n 1, 1) := by decide +kernel
theorem d_Ar_init_6 : decode b_Ar_init 6 = .ok (.putfield 7, 3) := by decide +kernel
theorem d_Ar_init_9 : decode b_Ar_init 9 = .ok (.aload_n 0, 1) := by decide +kernel
theorem d_Ar_init_10 : decode b_Ar_init 10 = .ok (.iload_n 2, 1) := by decide +kernel
theorem d_Ar_init_11 : decode b_Ar_init 11 = .ok (.putfield 13, 3) := by decide +kernel
theorem d_Ar_init_14 : decode b_Ar_init 14 = .ok (.aload_n 0, 1) := by decide +kernel
theorem d_Ar_init_15 : decode b_Ar_init 15 = .ok (.iload_n 3, 1) := by decide +kernel
theorem d_Ar_init_16 : decode b_Ar_init 16 = .ok (.putfield 16, 3) := by decide +kernel
theorem d_Ar_init_19 : decode b_Ar_init 19 = .ok (.aload_n 0, 1) := by decide +kernel
theorem d_Ar_init_20 : decode b_Ar_init 20 = .ok (.iload 4, 2) := by decide +kernel
theorem d_Ar_init_22 : decode b_Ar_init 22 = .ok (.putfield 19, 3) := by decide +kernel
theorem d_Ar_init_25 : decode b_Ar_init 25 = .ok (.return_, 1) := by decide +kernel
theorem d_Ar_startingAt_0 : decode b_Ar_startingAt 0 = .ok (.new 8, 3) := by decide +kernel
theorem d_Ar_startingAt_3 : decode b_Ar_startingAt 3 = .ok (.dup, 1) := by decide +kernel
theorem d_Ar_startingAt_4 : decode b_Ar_startingAt 4 = .ok (.iload_n 1, 1) := by decide +kernel
theorem d_Ar_startingAt_5 : decode b_Ar_startingAt 5 = .ok (.iload_n 2, 1) := by decide +kernel
theorem d_Ar_startingAt_6 : decode b_Ar_startingAt 6 = .ok (.iload_n 1, 1) := by decide +kernel
theorem d_Ar_startingAt_7 : decode b_Ar_startingAt 7 = .ok (.aload_n 0, 1) := by decide +kernel
theorem d_Ar_startingAt_8 : decode b_Ar_startingAt 8 = .ok (.getfield 16, 3) := by decide +kernel
theorem d_Ar_startingAt_11 : decode b_Ar_startingAt 11 = .ok (.aload_n 0, 1) := by decide +kernel
theorem d_Ar_startingAt_12 : decode b_Ar_startingAt 12 = .ok (.getfield 7, 3) := by decide +kernel
theorem d_Ar_startingAt_15 : decode b_Ar_startingAt 15 = .ok (.isub, 1) := by decide +kernel
theorem d_Ar_startingAt_16 : decode b_Ar_startingAt 16 = .ok (.iadd, 1) := by decide +kernel
theorem d_Ar_startingAt_17 : decode b_Ar_startingAt 17 = .ok (.iload_n 2, 1) := by decide +kernel
theorem d_Ar_startingAt_18 : decode b_Ar_startingAt 18 = .ok (.aload_n 0, 1) := by decide +kernel
theorem d_Ar_startingAt_19 : decode b_Ar_startingAt 19 = .ok (.getfield 19, 3) := by decide +kernel
theorem d_Ar_startingAt_22 : decode b_Ar_startingAt 22 = .ok (.aload_n 0, 1) := by decide +kernel
theorem d_Ar_startingAt_23 : decode b_Ar_startingAt 23 = .ok (.getfield 13, 3) := by decide +kernel
theorem d_Ar_startingAt_26 : decode b_Ar_startingAt 26 = .ok (.isub, 1) := by decide +kernel
theorem d_Ar_startingAt_27 : decode b_Ar_startingAt 27 = .ok (.iadd, 1) := by decide +kernel
theorem d_Ar_startingAt_28 : decode b_Ar_startingAt 28 = .ok (.invokespecial 22, 3) := by decide +kernel
theorem d_Ar_startingAt_31 : decode b_Ar_startingAt 31 = .ok (.areturn, 1) := by decide +kernel
theorem d_Ar_holds_0 : decode b_Ar_holds 0 = .ok (.aload_n 0, 1) := by decide +kernel
theorem d_Ar_holds_1 : decode b_Ar_holds 1 = .ok (.getfield 7, 3) := by decide +kernel
theorem d_Ar_holds_4 : decode b_Ar_holds 4 = .ok (.aload_n 1, 1) := by decide +kernel
theorem d_Ar_holds_5 : decode b_Ar_holds 5 = .ok (.getfield 7, 3) := by decide +kernel
theorem d_Ar_holds_8 : decode b_Ar_holds 8 = .ok (.if_icmp .gt 62, 3) := by decide +kernel
theorem d_Ar_holds_11 : decode b_Ar_holds 11 = .ok (.aload_n 1, 1) := by decide +kernel
theorem d_Ar_holds_12 : decode b_Ar_holds 12 = .ok (.getfield 7, 3) := by decide +kernel
theorem d_Ar_holds_15 : decode b_Ar_holds 15 = .ok (.aload_n 1, 1) := by decide +kernel
theorem d_Ar_holds_16 : decode b_Ar_holds 16 = .ok (.getfield 16, 3) := by decide +kernel
theorem d_Ar_holds_19 : decode b_Ar_holds 19 = .ok (.if_icmp .gt 51, 3) := by decide +kernel
theorem d_Ar_holds_22 : decode b_Ar_holds 22 = .ok (.aload_n 1, 1) := by decide +kernel
theorem d_Ar_holds_23 : decode b_Ar_holds 23 = .ok (.getfield 16, 3) := by decide +kernel
theorem d_Ar_holds_26 : decode b_Ar_holds 26 = .ok (.aload_n 0, 1) := by decide +kernel
theorem d_Ar_holds_27 : decode b_Ar_holds 27 = .ok (.getfield 16, 3) := by decide +kernel
theorem d_Ar_holds_30 : decode b_Ar_holds 30 = .ok (.if_icmp .gt 40, 3) := by decide +kernel
theorem d_Ar_holds_33 : decode b_Ar_holds 33 = .ok (.aload_n 0, 1) := by decide +kernel
theorem d_Ar_holds_34 : decode b_Ar_holds 34 = .ok (.getfield 13, 3) := by decide +kernel
theorem d_Ar_holds_37 : decode b_Ar_holds 37 = .ok (.aload_n 1, 1) := by decide +kernel
theorem d_Ar_holds_38 : decode b_Ar_holds 38 = .ok (.getfield 13, 3) := by decide +kernel
theorem d_Ar_holds_41 : decode b_Ar_holds 41 = .ok (.if_icmp .gt 29, 3) := by decide +kernel
theorem d_Ar_holds_44 : decode b_Ar_holds 44 = .ok (.aload_n 1, 1) := by decide +kernel
theorem d_Ar_holds_45 : decode b_Ar_holds 45 = .ok (.getfield 13, 3) := by decide +kernel
theorem d_Ar_holds_48 : decode b_Ar_holds 48 = .ok (.aload_n 1, 1) := by decide +kernel
theorem d_Ar_holds_49 : decode b_Ar_holds 49 = .ok (.getfield 19, 3) := by decide +kernel
theorem d_Ar_holds_52 : decode b_Ar_holds 52 = .ok (.if_icmp .gt 18, 3) := by decide +kernel
theorem d_Ar_holds_55 : decode b_Ar_holds 55 = .ok (.aload_n 1, 1) := by decide +kernel
theorem d_Ar_holds_56 : decode b_Ar_holds 56 = .ok (.getfield 19, 3) := by decide +kernel
theorem d_Ar_holds_59 : decode b_Ar_holds 59 = .ok (.aload_n 0, 1) := by decide +kernel
theorem d_Ar_holds_60 : decode b_Ar_holds 60 = .ok (.getfield 19, 3) := by decide +kernel
theorem d_Ar_holds_63 : decode b_Ar_holds 63 = .ok (.if_icmp .gt 7, 3) := by decide +kernel
theorem d_Ar_holds_66 : decode b_Ar_holds 66 = .ok (.iconst 1, 1) := by decide +kernel
theorem d_Ar_holds_67 : decode b_Ar_holds 67 = .ok (.goto 4, 3) := by decide +kernel
theorem d_Ar_holds_70 : decode b_Ar_holds 70 = .ok (.iconst 0, 1) := by decide +kernel
theorem d_Ar_holds_71 : decode b_Ar_holds 71 = .ok (.ireturn, 1) := by decide +kernel
theorem d_Ar_meets_0 : decode b_Ar_meets 0 = .ok (.aload_n 0, 1) := by decide +kernel
theorem d_Ar_meets_1 : decode b_Ar_meets 1 = .ok (.getfield 7, 3) := by decide +kernel
theorem d_Ar_meets_4 : decode b_Ar_meets 4 = .ok (.aload_n 1, 1) := by decide +kernel
theorem d_Ar_meets_5 : decode b_Ar_meets 5 = .ok (.getfield 16, 3) := by decide +kernel
theorem d_Ar_meets_8 : decode b_Ar_meets 8 = .ok (.if_icmp .gt 40, 3) := by decide +kernel
theorem d_Ar_meets_11 : decode b_Ar_meets 11 = .ok (.aload_n 1, 1) := by decide +kernel
theorem d_Ar_meets_12 : decode b_Ar_meets 12 = .ok (.getfield 7, 3) := by decide +kernel
theorem d_Ar_meets_15 : decode b_Ar_meets 15 = .ok (.aload_n 0, 1) := by decide +kernel
theorem d_Ar_meets_16 : decode b_Ar_meets 16 = .ok (.getfield 16, 3) := by decide +kernel
theorem d_Ar_meets_19 : decode b_Ar_meets 19 = .ok (.if_icmp .gt 29, 3) := by decide +kernel
theorem d_Ar_meets_22 : decode b_Ar_meets 22 = .ok (.aload_n 0, 1) := by decide +kernel
theorem d_Ar_meets_23 : decode b_Ar_meets 23 = .ok (.getfield 13, 3) := by decide +kernel
theorem d_Ar_meets_26 : decode b_Ar_meets 26 = .ok (.aload_n 1, 1) := by decide +kernel
theorem d_Ar_meets_27 : decode b_Ar_meets 27 = .ok (.getfield 19, 3) := by decide +kernel
theorem d_Ar_meets_30 : decode b_Ar_meets 30 = .ok (.if_icmp .gt 18, 3) := by decide +kernel
theorem d_Ar_meets_33 : decode b_Ar_meets 33 = .ok (.aload_n 1, 1) := by decide +kernel
theorem d_Ar_meets_34 : decode b_Ar_meets 34 = .ok (.getfield 13, 3) := by decide +kernel
theorem d_Ar_meets_37 : decode b_Ar_meets 37 = .ok (.aload_n 0, 1) := by decide +kernel
theorem d_Ar_meets_38 : decode b_Ar_meets 38 = .ok (.getfield 19, 3) := by decide +kernel
theorem d_Ar_meets_41 : decode b_Ar_meets 41 = .ok (.if_icmp .gt 7, 3) := by decide +kernel
theorem d_Ar_meets_44 : decode b_Ar_meets 44 = .ok (.iconst 1, 1) := by decide +kernel
theorem d_Ar_meets_45 : decode b_Ar_meets 45 = .ok (.goto 4, 3) := by decide +kernel
theorem d_Ar_meets_48 : decode b_Ar_meets 48 = .ok (.iconst 0, 1) := by decide +kernel
theorem d_Ar_meets_49 : decode b_Ar_meets 49 = .ok (.ireturn, 1) := by decide +kernel
theorem d_Ar_comesNearMoved_0 : decode b_Ar_comesNearMoved 0 = .ok (.aload_n 0, 1) := by decide +kernel
theorem d_Ar_comesNearMoved_1 : decode b_Ar_comesNearMoved 1 = .ok (.getfield 7, 3) := by decide +kernel
theorem d_Ar_comesNearMoved_4 : decode b_Ar_comesNearMoved 4 = .ok (.iload_n 3, 1) := by decide +kernel
theorem d_Ar_comesNearMoved_5 : decode b_Ar_comesNearMoved 5 = .ok (.iadd, 1) := by decide +kernel
theorem d_Ar_comesNearMoved_6 : decode b_Ar_comesNearMoved 6 = .ok (.aload_n 1, 1) := by decide +kernel
theorem d_Ar_comesNearMoved_7 : decode b_Ar_comesNearMoved 7 = .ok (.getfield 16, 3) := by decide +kernel
theorem d_Ar_comesNearMoved_10 : decode b_Ar_comesNearMoved 10 = .ok (.iload_n 2, 1) := by decide +kernel
theorem d_Ar_comesNearMoved_11 : decode b_Ar_comesNearMoved 11 = .ok (.iadd, 1) := by decide +kernel
theorem d_Ar_comesNearMoved_12 : decode b_Ar_comesNearMoved 12 = .ok (.if_icmp .gt 54, 3) := by decide +kernel
theorem d_Ar_comesNearMoved_15 : decode b_Ar_comesNearMoved 15 = .ok (.aload_n 1, 1) := by decide +kernel
theorem d_Ar_comesNearMoved_16 : decode b_Ar_comesNearMoved 16 = .ok (.getfield 7, 3) := by decide +kernel
theorem d_Ar_comesNearMoved_19 : decode b_Ar_comesNearMoved 19 = .ok (.aload_n 0, 1) := by decide +kernel
theorem d_Ar_comesNearMoved_20 : decode b_Ar_comesNearMoved 20 = .ok (.getfield 16, 3) := by decide +kernel
theorem d_Ar_comesNearMoved_23 : decode b_Ar_comesNearMoved 23 = .ok (.iload_n 3, 1) := by decide +kernel
theorem d_Ar_comesNearMoved_24 : decode b_Ar_comesNearMoved 24 = .ok (.iadd, 1) := by decide +kernel
theorem d_Ar_comesNearMoved_25 : decode b_Ar_comesNearMoved 25 = .ok (.iload_n 2, 1) := by decide +kernel
theorem d_Ar_comesNearMoved_26 : decode b_Ar_comesNearMoved 26 = .ok (.iadd, 1) := by decide +kernel
theorem d_Ar_comesNearMoved_27 : decode b_Ar_comesNearMoved 27 = .ok (.if_icmp .gt 39, 3) := by decide +kernel
theorem d_Ar_comesNearMoved_30 : decode b_Ar_comesNearMoved 30 = .ok (.aload_n 0, 1) := by decide +kernel
theorem d_Ar_comesNearMoved_31 : decode b_Ar_comesNearMoved 31 = .ok (.getfield 13, 3) := by decide +kernel
theorem d_Ar_comesNearMoved_34 : decode b_Ar_comesNearMoved 34 = .ok (.iload 4, 2) := by decide +kernel
theorem d_Ar_comesNearMoved_36 : decode b_Ar_comesNearMoved 36 = .ok (.iadd, 1) := by decide +kernel
theorem d_Ar_comesNearMoved_37 : decode b_Ar_comesNearMoved 37 = .ok (.aload_n 1, 1) := by decide +kernel
theorem d_Ar_comesNearMoved_38 : decode b_Ar_comesNearMoved 38 = .ok (.getfield 19, 3) := by decide +kernel
theorem d_Ar_comesNearMoved_41 : decode b_Ar_comesNearMoved 41 = .ok (.iload_n 2, 1) := by decide +kernel
theorem d_Ar_comesNearMoved_42 : decode b_Ar_comesNearMoved 42 = .ok (.iadd, 1) := by decide +kernel
theorem d_Ar_comesNearMoved_43 : decode b_Ar_comesNearMoved 43 = .ok (.if_icmp .gt 23, 3) := by decide +kernel
theorem d_Ar_comesNearMoved_46 : decode b_Ar_comesNearMoved 46 = .ok (.aload_n 1, 1) := by decide +kernel
theorem d_Ar_comesNearMoved_47 : decode b_Ar_comesNearMoved 47 = .ok (.getfield 13, 3) := by decide +kernel
theorem d_Ar_comesNearMoved_50 : decode b_Ar_comesNearMoved 50 = .ok (.aload_n 0, 1) := by decide +kernel
theorem d_Ar_comesNearMoved_51 : decode b_Ar_comesNearMoved 51 = .ok (.getfield 19, 3) := by decide +kernel
theorem d_Ar_comesNearMoved_54 : decode b_Ar_comesNearMoved 54 = .ok (.iload 4, 2) := by decide +kernel
theorem d_Ar_comesNearMoved_56 : decode b_Ar_comesNearMoved 56 = .ok (.iadd, 1) := by decide +kernel
theorem d_Ar_comesNearMoved_57 : decode b_Ar_comesNearMoved 57 = .ok (.iload_n 2, 1) := by decide +kernel
theorem d_Ar_comesNearMoved_58 : decode b_Ar_comesNearMoved 58 = .ok (.iadd, 1) := by decide +kernel
theorem d_Ar_comesNearMoved_59 : decode b_Ar_comesNearMoved 59 = .ok (.if_icmp .gt 7, 3) := by decide +kernel
theorem d_Ar_comesNearMoved_62 : decode b_Ar_comesNearMoved 62 = .ok (.iconst 1, 1) := by decide +kernel
theorem d_Ar_comesNearMoved_63 : decode b_Ar_comesNearMoved 63 = .ok (.goto 4, 3) := by decide +kernel
theorem d_Ar_comesNearMoved_66 : decode b_Ar_comesNearMoved 66 = .ok (.iconst 0, 1) := by decide +kernel
theorem d_Ar_comesNearMoved_67 : decode b_Ar_comesNearMoved 67 = .ok (.ireturn, 1) := by decide +kernel
theorem d_Ar_shift_0 : decode b_Ar_shift 0 = .ok (.aload_n 0, 1) := by decide +kernel
theorem d_Ar_shift_1 : decode b_Ar_shift 1 = .ok (.dup, 1) := by decide +kernel
theorem d_Ar_shift_2 : decode b_Ar_shift 2 = .ok (.getfield 7, 3) := by decide +kernel
theorem d_Ar_shift_5 : decode b_Ar_shift 5 = .ok (.iload_n 1, 1) := by decide +kernel
theorem d_Ar_shift_6 : decode b_Ar_shift 6 = .ok (.iadd, 1) := by decide +kernel
theorem d_Ar_shift_7 : decode b_Ar_shift 7 = .ok (.putfield 7, 3) := by decide +kernel
theorem d_Ar_shift_10 : decode b_Ar_shift 10 = .ok (.aload_n 0, 1) := by decide +kernel
theorem d_Ar_shift_11 : decode b_Ar_shift 11 = .ok (.dup, 1) := by decide +kernel
theorem d_Ar_shift_12 : decode b_Ar_shift 12 = .ok (.getfield 16, 3) := by decide +kernel
theorem d_Ar_shift_15 : decode b_Ar_shift 15 = .ok (.iload_n 1, 1) := by decide +kernel
theorem d_Ar_shift_16 : decode b_Ar_shift 16 = .ok (.iadd, 1) := by decide +kernel
theorem d_Ar_shift_17 : decode b_Ar_shift 17 = .ok (.putfield 16, 3) := by decide +kernel
theorem d_Ar_shift_20 : decode b_Ar_shift 20 = .ok (.aload_n 0, 1) := by decide +kernel
theorem d_Ar_shift_21 : decode b_Ar_shift 21 = .ok (.dup, 1) := by decide +kernel
theorem d_Ar_shift_22 : decode b_Ar_shift 22 = .ok (.getfield 13, 3) := by decide +kernel
theorem d_Ar_shift_25 : decode b_Ar_shift 25 = .ok (.iload_n 2, 1) := by decide +kernel
theorem d_Ar_shift_26 : decode b_Ar_shift 26 = .ok (.iadd, 1) := by decide +kernel
theorem d_Ar_shift_27 : decode b_Ar_shift 27 = .ok (.putfield 13, 3) := by decide +kernel
theorem d_Ar_shift_30 : decode b_Ar_shift 30 = .ok (.aload_n 0, 1) := by decide +kernel
theorem d_Ar_shift_31 : decode b_Ar_shift 31 = .ok (.dup, 1) := by decide +kernel
theorem d_Ar_shift_32 : decode b_Ar_shift 32 = .ok (.getfield 19, 3) := by decide +kernel
theorem d_Ar_shift_35 : decode b_Ar_shift 35 = .ok (.iload_n 2, 1) := by decide +kernel
theorem d_Ar_shift_36 : decode b_Ar_shift 36 = .ok (.iadd, 1) := by decide +kernel
theorem d_Ar_shift_37 : decode b_Ar_shift 37 = .ok (.putfield 19, 3) := by decide +kernel
theorem d_Ar_shift_40 : decode b_Ar_shift 40 = .ok (.return_, 1) := by decide +kernel
theorem d_Th_init_0 : decode b_Th_init 0 = .ok (.aload_n 0, 1) := by decide +kernel
theorem d_Th_init_1 : decode b_Th_init 1 = .ok (.invokespecial 3, 3) := by decide +kernel
theorem d_Th_init_4 : decode b_Th_init 4 = .ok (.aload_n 0, 1) := by decide +kernel
theorem d_Th_init_5 : decode b_Th_init 5 = .ok (.iconst 0, 1) := by decide +kernel
theorem d_Th_init_6 : decode b_Th_init 6 = .ok (.putfield 9, 3) := by decide +kernel
theorem d_Th_init_9 : decode b_Th_init 9 = .ok (.aload_n 0, 1) := by decide +kernel
theorem d_Th_init_10 : decode b_Th_init 10 = .ok (.iload_n 1, 1) := by decide +kernel
theorem d_Th_init_11 : decode b_Th_init 11 = .ok (.putfield 15, 3) := by decide +kernel
theorem d_Th_init_14 : decode b_Th_init 14 = .ok (.aload_n 0, 1) := by decide +kernel
theorem d_Th_init_15 : decode b_Th_init 15 = .ok (.iload_n 2, 1) := by decide +kernel
theorem d_Th_init_16 : decode b_Th_init 16 = .ok (.putfield 19, 3) := by decide +kernel
theorem d_Th_init_19 : decode b_Th_init 19 = .ok (.aload_n 0, 1) := by decide +kernel
theorem d_Th_init_20 : decode b_Th_init 20 = .ok (.aload_n 3, 1) := by decide +kernel
theorem d_Th_init_21 : decode b_Th_init 21 = .ok (.putfield 22, 3) := by decide +kernel
theorem d_Th_init_24 : decode b_Th_init 24 = .ok (.aload_n 0, 1) := by decide +kernel
theorem d_Th_init_25 : decode b_Th_init 25 = .ok (.iload 4, 2) := by decide +kernel
theorem d_Th_init_27 : decode b_Th_init 27 = .ok (.putfield 26, 3) := by decide +kernel
theorem d_Th_init_30 : decode b_Th_init 30 = .ok (.aload_n 0, 1) := by decide +kernel
theorem d_Th_init_31 : decode b_Th_init 31 = .ok (.iload 5, 2) := by decide +kernel
theorem d_Th_init_33 : decode b_Th_init 33 = .ok (.putfield 29, 3) := by decide +kernel
theorem d_Th_init_36 : decode b_Th_init 36 = .ok (.aload_n 0, 1) := by decide +kernel
theorem d_Th_init_37 : decode b_Th_init 37 = .ok (.iload 6, 2) := by decide +kernel
theorem d_Th_init_39 : decode b_Th_init 39 = .ok (.putfield 32, 3) := by decide +kernel
theorem d_Th_init_42 : decode b_Th_init 42 = .ok (.return_, 1) := by decide +kernel
theorem d_Th_handle_0 : decode b_Th_handle 0 = .ok (.sipush 1000, 3) := by decide +kernel
theorem d_Th_handle_3 : decode b_Th_handle 3 = .ok (.aload_n 0, 1) := by decide +kernel
theorem d_Th_handle_4 : decode b_Th_handle 4 = .ok (.getfield 15, 3) := by decide +kernel
theorem d_Th_handle_7 : decode b_Th_handle 7 = .ok (.imul, 1) := by decide +kernel
theorem d_Th_handle_8 : decode b_Th_handle 8 = .ok (.aload_n 0, 1) := by decide +kernel
theorem d_Th_handle_9 : decode b_Th_handle 9 = .ok (.getfield 19, 3) := by decide +kernel
theorem d_Th_handle_12 : decode b_Th_handle 12 = .ok (.iadd, 1) := by decide +kernel
theorem d_Th_handle_13 : decode b_Th_handle 13 = .ok (.ireturn, 1) := by decide +kernel
theorem d_Th_slot_0 : decode b_Th_slot 0 = .ok (.getstatic 35, 3) := by decide +kernel
theorem d_Th_slot_3 : decode b_Th_slot 3 = .ok (.aload_n 0, 1) := by decide +kernel
theorem d_Th_slot_4 : decode b_Th_slot 4 = .ok (.getfield 15, 3) := by decide +kernel
theorem d_Th_slot_7 : decode b_Th_slot 7 = .ok (.iaload, 1) := by decide +kernel
theorem d_Th_slot_8 : decode b_Th_slot 8 = .ok (.aload_n 0, 1) := by decide +kernel
theorem d_Th_slot_9 : decode b_Th_slot 9 = .ok (.getfield 19, 3) := by decide +kernel
theorem d_Th_slot_12 : decode b_Th_slot 12 = .ok (.iadd, 1) := by decide +kernel
theorem d_Th_slot_13 : decode b_Th_slot 13 = .ok (.ireturn, 1) := by decide +kernel
theorem d_Th_hasCopper_0 : decode b_Th_hasCopper 0 = .ok (.aload_n 0, 1) := by decide +kernel
theorem d_Th_hasCopper_1 : decode b_Th_hasCopper 1 = .ok (.getfield 15, 3) := by decide +kernel
theorem d_Th_hasCopper_4 : decode b_Th_hasCopper 4 = .ok (.iconst 3, 1) := by decide +kernel
theorem d_Th_hasCopper_5 : decode b_Th_hasCopper 5 = .ok (.if_icmp .eq 11, 3) := by decide +kernel
theorem d_Th_hasCopper_8 : decode b_Th_hasCopper 8 = .ok (.aload_n 0, 1) := by decide +kernel
theorem d_Th_hasCopper_9 : decode b_Th_hasCopper 9 = .ok (.getfield 15, 3) := by decide +kernel
theorem d_Th_hasCopper_12 : decode b_Th_hasCopper 12 = .ok (.iconst 4, 1) := by decide +kernel
theorem d_Th_hasCopper_13 : decode b_Th_hasCopper 13 = .ok (.if_icmp .ne 7, 3) := by decide +kernel
theorem d_Th_hasCopper_16 : decode b_Th_hasCopper 16 = .ok (.iconst 1, 1) := by decide +kernel
theorem d_Th_hasCopper_17 : decode b_Th_hasCopper 17 = .ok (.goto 4, 3) := by decide +kernel
theorem d_Th_hasCopper_20 : decode b_Th_hasCopper 20 = .ok (.iconst 0, 1) := by decide +kernel
theorem d_Th_hasCopper_21 : decode b_Th_hasCopper 21 = .ok (.ireturn, 1) := by decide +kernel
theorem d_Th_liesOn_0 : decode b_Th_liesOn 0 = .ok (.aload_n 0, 1) := by decide +kernel
theorem d_Th_liesOn_1 : decode b_Th_liesOn 1 = .ok (.getfield 15, 3) := by decide +kernel
theorem d_Th_liesOn_4 : decode b_Th_liesOn 4 = .ok (.iconst 3, 1) := by decide +kernel
theorem d_Th_liesOn_5 : decode b_Th_liesOn 5 = .ok (.if_icmp .eq 11, 3) := by decide +kernel
theorem d_Th_liesOn_8 : decode b_Th_liesOn 8 = .ok (.aload_n 0, 1) := by decide +kernel
theorem d_Th_liesOn_9 : decode b_Th_liesOn 9 = .ok (.getfield 26, 3) := by decide +kernel
theorem d_Th_liesOn_12 : decode b_Th_liesOn 12 = .ok (.iload_n 1, 1) := by decide +kernel
theorem d_Th_liesOn_13 : decode b_Th_liesOn 13 = .ok (.if_icmp .ne 7, 3) := by decide +kernel
theorem d_Th_liesOn_16 : decode b_Th_liesOn 16 = .ok (.iconst 1, 1) := by decide +kernel
theorem d_Th_liesOn_17 : decode b_Th_liesOn 17 = .ok (.goto 4, 3) := by decide +kernel
theorem d_Th_liesOn_20 : decode b_Th_liesOn 20 = .ok (.iconst 0, 1) := by decide +kernel
theorem d_Th_liesOn_21 : decode b_Th_liesOn 21 = .ok (.ireturn, 1) := by decide +kernel
theorem d_Th_goesWith_0 : decode b_Th_goesWith 0 = .ok (.aload_n 0, 1) := by decide +kernel
theorem d_Th_goesWith_1 : decode b_Th_goesWith 1 = .ok (.aload_n 1, 1) := by decide +kernel
theorem d_Th_goesWith_2 : decode b_Th_goesWith 2 = .ok (.if_acmp .eq 14, 3) := by decide +kernel
theorem d_Th_goesWith_5 : decode b_Th_goesWith 5 = .ok (.aload_n 0, 1) := by decide +kernel
theorem d_Th_goesWith_6 : decode b_Th_goesWith 6 = .ok (.getfield 32, 3) := by decide +kernel
theorem d_Th_goesWith_9 : decode b_Th_goesWith 9 = .ok (.aload_n 1, 1) := by decide +kernel
theorem d_Th_goesWith_10 : decode b_Th_goesWith 10 = .ok (.invokevirtual 39, 3) := by decide +kernel
theorem d_Th_goesWith_13 : decode b_Th_goesWith 13 = .ok (.if_icmp .ne 7, 3) := by decide +kernel
theorem d_Th_goesWith_16 : decode b_Th_goesWith 16 = .ok (.iconst 1, 1) := by decide +kernel
theorem d_Th_goesWith_17 : decode b_Th_goesWith 17 = .ok (.goto 4, 3) := by decide +kernel
theorem d_Th_goesWith_20 : decode b_Th_goesWith 20 = .ok (.iconst 0, 1) := by decide +kernel
theorem d_Th_goesWith_21 : decode b_Th_goesWith 21 = .ok (.ireturn, 1) := by decide +kernel
theorem d_Th_excludes_0 : decode b_Th_excludes 0 = .ok (.aload_n 0, 1) := by decide +kernel
theorem d_Th_excludes_1 : decode b_Th_excludes 1 = .ok (.getfield 15, 3) := by decide +kernel
theorem d_Th_excludes_4 : decode b_Th_excludes 4 = .ok (.aload_n 1, 1) := by decide +kernel
theorem d_Th_excludes_5 : decode b_Th_excludes 5 = .ok (.getfield 15, 3) := by decide +kernel
theorem d_Th_excludes_8 : decode b_Th_excludes 8 = .ok (.if_icmp .ne 34, 3) := by decide +kernel
theorem d_Th_excludes_11 : decode b_Th_excludes 11 = .ok (.aload_n 0, 1) := by decide +kernel
theorem d_Th_excludes_12 : decode b_Th_excludes 12 = .ok (.getfield 26, 3) := by decide +kernel
theorem d_Th_excludes_15 : decode b_Th_excludes 15 = .ok (.aload_n 1, 1) := by decide +kernel
theorem d_Th_excludes_16 : decode b_Th_excludes 16 = .ok (.getfield 26, 3) := by decide +kernel
theorem d_Th_excludes_19 : decode b_Th_excludes 19 = .ok (.if_icmp .ne 23, 3) := by decide +kernel
theorem d_Th_excludes_22 : decode b_Th_excludes 22 = .ok (.aload_n 0, 1) := by decide +kernel
theorem d_Th_excludes_23 : decode b_Th_excludes 23 = .ok (.getfield 15, 3) := by decide +kernel
theorem d_Th_excludes_26 : decode b_Th_excludes 26 = .ok (.iconst 2, 1) := by decide +kernel
theorem d_Th_excludes_27 : decode b_Th_excludes 27 = .ok (.if_icmp .eq 11, 3) := by decide +kernel
theorem d_Th_excludes_30 : decode b_Th_excludes 30 = .ok (.aload_n 0, 1) := by decide +kernel
theorem d_Th_excludes_31 : decode b_Th_excludes 31 = .ok (.getfield 15, 3) := by decide +kernel
theorem d_Th_excludes_34 : decode b_Th_excludes 34 = .ok (.iconst 5, 1) := by decide +kernel
theorem d_Th_excludes_35 : decode b_Th_excludes 35 = .ok (.if_icmp .ne 7, 3) := by decide +kernel
theorem d_Th_excludes_38 : decode b_Th_excludes 38 = .ok (.iconst 1, 1) := by decide +kernel
theorem d_Th_excludes_39 : decode b_Th_excludes 39 = .ok (.goto 4, 3) := by decide +kernel
theorem d_Th_excludes_42 : decode b_Th_excludes 42 = .ok (.iconst 0, 1) := by decide +kernel
theorem d_Th_excludes_43 : decode b_Th_excludes 43 = .ok (.ireturn, 1) := by decide +kernel
theorem d_Th_clashesMoved_0 : decode b_Th_clashesMoved 0 = .ok (.aload_n 0, 1) := by decide +kernel
theorem d_Th_clashesMoved_1 : decode b_Th_clashesMoved 1 = .ok (.invokevirtual 43, 3) := by decide +kernel
theorem d_Th_clashesMoved_4 : decode b_Th_clashesMoved 4 = .ok (.ifCond .eq 65, 3) := by decide +kernel
theorem d_Th_clashesMoved_7 : decode b_Th_clashesMoved 7 = .ok (.aload_n 1, 1) := by decide +kernel
theorem d_Th_clashesMoved_8 : decode b_Th_clashesMoved 8 = .ok (.invokevirtual 43, 3) := by decide +kernel
theorem d_Th_clashesMoved_11 : decode b_Th_clashesMoved 11 = .ok (.ifCond .eq 58, 3) := by decide +kernel
theorem d_Th_clashesMoved_14 : decode b_Th_clashesMoved 14 = .ok (.aload_n 0, 1) := by decide +kernel
theorem d_Th_clashesMoved_15 : decode b_Th_clashesMoved 15 = .ok (.getfield 29, 3) := by decide +kernel
theorem d_Th_clashesMoved_18 : decode b_Th_clashesMoved 18 = .ok (.aload_n 1, 1) := by decide +kernel
theorem d_Th_clashesMoved_19 : decode b_Th_clashesMoved 19 = .ok (.getfield 29, 3) := by decide +kernel
theorem d_Th_clashesMoved_22 : decode b_Th_clashesMoved 22 = .ok (.if_icmp .eq 47, 3) := by decide +kernel
theorem d_Th_clashesMoved_25 : decode b_Th_clashesMoved 25 = .ok (.aload_n 0, 1) := by decide +kernel
theorem d_Th_clashesMoved_26 : decode b_Th_clashesMoved 26 = .ok (.aload_n 1, 1) := by decide +kernel
theorem d_Th_clashesMoved_27 : decode b_Th_clashesMoved 27 = .ok (.getfield 26, 3) := by decide +kernel
theorem d_Th_clashesMoved_30 : decode b_Th_clashesMoved 30 = .ok (.invokevirtual 47, 3) := by decide +kernel
theorem d_Th_clashesMoved_33 : decode b_Th_clashesMoved 33 = .ok (.ifCond .ne 14, 3) := by decide +kernel
theorem d_Th_clashesMoved_36 : decode b_Th_clashesMoved 36 = .ok (.aload_n 1, 1) := by decide +kernel
theorem d_Th_clashesMoved_37 : decode b_Th_clashesMoved 37 = .ok (.aload_n 0, 1) := by decide +kernel
theorem d_Th_clashesMoved_38 : decode b_Th_clashesMoved 38 = .ok (.getfield 26, 3) := by decide +kernel
theorem d_Th_clashesMoved_41 : decode b_Th_clashesMoved 41 = .ok (.invokevirtual 47, 3) := by decide +kernel
theorem d_Th_clashesMoved_44 : decode b_Th_clashesMoved 44 = .ok (.ifCond .eq 25, 3) := by decide +kernel
theorem d_Th_clashesMoved_47 : decode b_Th_clashesMoved 47 = .ok (.aload_n 0, 1) := by decide +kernel
theorem d_Th_clashesMoved_48 : decode b_Th_clashesMoved 48 = .ok (.getfield 22, 3) := by decide +kernel
theorem d_Th_clashesMoved_51 : decode b_Th_clashesMoved 51 = .ok (.aload_n 1, 1) := by decide +kernel
theorem d_Th_clashesMoved_52 : decode b_Th_clashesMoved 52 = .ok (.getfield 22, 3) := by decide +kernel
theorem d_Th_clashesMoved_55 : decode b_Th_clashesMoved 55 = .ok (.iload_n 2, 1) := by decide +kernel
theorem d_Th_clashesMoved_56 : decode b_Th_clashesMoved 56 = .ok (.iload_n 3, 1) := by decide +kernel
theorem d_Th_clashesMoved_57 : decode b_Th_clashesMoved 57 = .ok (.iload 4, 2) := by decide +kernel
theorem d_Th_clashesMoved_59 : decode b_Th_clashesMoved 59 = .ok (.invokevirtual 51, 3) := by decide +kernel
theorem d_Th_clashesMoved_62 : decode b_Th_clashesMoved 62 = .ok (.ifCond .eq 7, 3) := by decide +kernel
theorem d_Th_clashesMoved_65 : decode b_Th_clashesMoved 65 = .ok (.iconst 1, 1) := by decide +kernel
theorem d_Th_clashesMoved_66 : decode b_Th_clashesMoved 66 = .ok (.goto 4, 3) := by decide +kernel
theorem d_Th_clashesMoved_69 : decode b_Th_clashesMoved 69 = .ok (.iconst 0, 1) := by decide +kernel
theorem d_Th_clashesMoved_70 : decode b_Th_clashesMoved 70 = .ok (.ireturn, 1) := by decide +kernel
theorem d_Th_state_0 : decode b_Th_state 0 = .ok (.aload_n 0, 1) := by decide +kernel
theorem d_Th_state_1 : decode b_Th_state 1 = .ok (.getfield 22, 3) := by decide +kernel
theorem d_Th_state_4 : decode b_Th_state 4 = .ok (.getfield 57, 3) := by decide +kernel
theorem d_Th_state_7 : decode b_Th_state 7 = .ok (.bipush 6, 2) := by decide +kernel
theorem d_Th_state_9 : decode b_Th_state 9 = .ok (.ishl, 1) := by decide +kernel
theorem d_Th_state_10 : decode b_Th_state 10 = .ok (.aload_n 0, 1) := by decide +kernel
theorem d_Th_state_11 : decode b_Th_state 11 = .ok (.getfield 22, 3) := by decide +kernel
theorem d_Th_state_14 : decode b_Th_state 14 = .ok (.getfield 60, 3) := by decide +kernel
theorem d_Th_state_17 : decode b_Th_state 17 = .ok (.iconst 1, 1) := by decide +kernel
theorem d_Th_state_18 : decode b_Th_state 18 = .ok (.ishl, 1) := by decide +kernel
theorem d_Th_state_19 : decode b_Th_state 19 = .ok (.ior, 1) := by decide +kernel
theorem d_Th_state_20 : decode b_Th_state 20 = .ok (.aload_n 0, 1) := by decide +kernel
theorem d_Th_state_21 : decode b_Th_state 21 = .ok (.getfield 9, 3) := by decide +kernel
theorem d_Th_state_24 : decode b_Th_state 24 = .ok (.ifCond .eq 7, 3) := by decide +kernel
theorem d_Th_state_27 : decode b_Th_state 27 = .ok (.iconst 1, 1) := by decide +kernel
theorem d_Th_state_28 : decode b_Th_state 28 = .ok (.goto 4, 3) := by decide +kernel
theorem d_Th_state_31 : decode b_Th_state 31 = .ok (.iconst 0, 1) := by decide +kernel
theorem d_Th_state_32 : decode b_Th_state 32 = .ok (.ior, 1) := by decide +kernel
theorem d_Th_state_33 : decode b_Th_state 33 = .ok (.ireturn, 1) := by decide +kernel
theorem d_Th_restore_0 : decode b_Th_restore 0 = .ok (.aload_n 0, 1) := by decide +kernel
theorem d_Th_restore_1 : decode b_Th_restore 1 = .ok (.iload_n 1, 1) := by decide +kernel
theorem d_Th_restore_2 : decode b_Th_restore 2 = .ok (.iconst 1, 1) := by decide +kernel
theorem d_Th_restore_3 : decode b_Th_restore 3 = .ok (.iand, 1) := by decide +kernel
theorem d_Th_restore_4 : decode b_Th_restore 4 = .ok (.ifCond .eq 7, 3) := by decide +kernel
theorem d_Th_restore_7 : decode b_Th_restore 7 = .ok (.iconst 1, 1) := by decide +kernel
theorem d_Th_restore_8 : decode b_Th_restore 8 = .ok (.goto 4, 3) := by decide +kernel
theorem d_Th_restore_11 : decode b_Th_restore 11 = .ok (.iconst 0, 1) := by decide +kernel
theorem d_Th_restore_12 : decode b_Th_restore 12 = .ok (.putfield 9, 3) := by decide +kernel
theorem d_Th_restore_15 : decode b_Th_restore 15 = .ok (.aload_n 0, 1) := by decide +kernel
theorem d_Th_restore_16 : decode b_Th_restore 16 = .ok (.getfield 22, 3) := by decide +kernel
theorem d_Th_restore_19 : decode b_Th_restore 19 = .ok (.iload_n 1, 1) := by decide +kernel
theorem d_Th_restore_20 : decode b_Th_restore 20 = .ok (.iconst 1, 1) := by decide +kernel
theorem d_Th_restore_21 : decode b_Th_restore 21 = .ok (.ishr, 1) := by decide +kernel
theorem d_Th_restore_22 : decode b_Th_restore 22 = .ok (.bipush 31, 2) := by decide +kernel
theorem d_Th_restore_24 : decode b_Th_restore 24 = .ok (.iand, 1) := by decide +kernel
theorem d_Th_restore_25 : decode b_Th_restore 25 = .ok (.aload_n 0, 1) := by decide +kernel
theorem d_Th_restore_26 : decode b_Th_restore 26 = .ok (.getfield 22, 3) := by decide +kernel
theorem d_Th_restore_29 : decode b_Th_restore 29 = .ok (.getfield 60, 3) := by decide +kernel
theorem d_Th_restore_32 : decode b_Th_restore 32 = .ok (.isub, 1) := by decide +kernel
theorem d_Th_restore_33 : decode b_Th_restore 33 = .ok (.iload_n 1, 1) := by decide +kernel
theorem d_Th_restore_34 : decode b_Th_restore 34 = .ok (.bipush 6, 2) := by decide +kernel
theorem d_Th_restore_36 : decode b_Th_restore 36 = .ok (.ishr, 1) := by decide +kernel
theorem d_Th_restore_37 : decode b_Th_restore 37 = .ok (.aload_n 0, 1) := by decide +kernel
theorem d_Th_restore_38 : decode b_Th_restore 38 = .ok (.getfield 22, 3) := by decide +kernel
theorem d_Th_restore_41 : decode b_Th_restore 41 = .ok (.getfield 57, 3) := by decide +kernel
theorem d_Th_restore_44 : decode b_Th_restore 44 = .ok (.isub, 1) := by decide +kernel
theorem d_Th_restore_45 : decode b_Th_restore 45 = .ok (.invokevirtual 63, 3) := by decide +kernel
theorem d_Th_restore_48 : decode b_Th_restore 48 = .ok (.return_, 1) := by decide +kernel
theorem d_Sn_init_0 : decode b_Sn_init 0 = .ok (.aload_n 0, 1) := by decide +kernel
theorem d_Sn_init_1 : decode b_Sn_init 1 = .ok (.invokespecial 3, 3) := by decide +kernel
theorem d_Sn_init_4 : decode b_Sn_init 4 = .ok (.aload_n 0, 1) := by decide +kernel
theorem d_Sn_init_5 : decode b_Sn_init 5 = .ok (.sipush 150, 3) := by decide +kernel
theorem d_Sn_init_8 : decode b_Sn_init 8 = .ok (.newarray .int, 2) := by decide +kernel
theorem d_Sn_init_10 : decode b_Sn_init 10 = .ok (.putfield 9, 3) := by decide +kernel
theorem d_Sn_init_13 : decode b_Sn_init 13 = .ok (.aload_n 0, 1) := by decide +kernel
theorem d_Sn_init_14 : decode b_Sn_init 14 = .ok (.getfield 9, 3) := by decide +kernel
theorem d_Sn_init_17 : decode b_Sn_init 17 = .ok (.iconst (-1), 1) := by decide +kernel
theorem d_Sn_init_18 : decode b_Sn_init 18 = .ok (.invokestatic 15, 3) := by decide +kernel
theorem d_Sn_init_21 : decode b_Sn_init 21 = .ok (.return_, 1) := by decide +kernel
theorem d_Sn_noteFirst_0 : decode b_Sn_noteFirst 0 = .ok (.aload_n 1, 1) := by decide +kernel
theorem d_Sn_noteFirst_1 : decode b_Sn_noteFirst 1 = .ok (.invokevirtual 21, 3) := by decide +kernel
theorem d_Sn_noteFirst_4 : decode b_Sn_noteFirst 4 = .ok (.istore_n 2, 1) := by decide +kernel
theorem d_Sn_noteFirst_5 : decode b_Sn_noteFirst 5 = .ok (.aload_n 0, 1) := by decide +kernel
theorem d_Sn_noteFirst_6 : decode b_Sn_noteFirst 6 = .ok (.getfield 9, 3) := by decide +kernel
theorem d_Sn_noteFirst_9 : decode b_Sn_noteFirst 9 = .ok (.iload_n 2, 1) := by decide +kernel
theorem d_Sn_noteFirst_10 : decode b_Sn_noteFirst 10 = .ok (.iaload, 1) := by decide +kernel
theorem d_Sn_noteFirst_11 : decode b_Sn_noteFirst 11 = .ok (.iconst (-1), 1) := by decide +kernel
theorem d_Sn_noteFirst_12 : decode b_Sn_noteFirst 12 = .ok (.if_icmp .ne 13, 3) := by decide +kernel
theorem d_Sn_noteFirst_15 : decode b_Sn_noteFirst 15 = .ok (.aload_n 0, 1) := by decide +kernel
theorem d_Sn_noteFirst_16 : decode b_Sn_noteFirst 16 = .ok (.getfield 9, 3) := by decide +kernel
theorem d_Sn_noteFirst_19 : decode b_Sn_noteFirst 19 = .ok (.iload_n 2, 1) := by decide +kernel
theorem d_Sn_noteFirst_20 : decode b_Sn_noteFirst 20 = .ok (.aload_n 1, 1) := by decide +kernel
theorem d_Sn_noteFirst_21 : decode b_Sn_noteFirst 21 = .ok (.invokevirtual 27, 3) := by decide +kernel
theorem d_Sn_noteFirst_24 : decode b_Sn_noteFirst 24 = .ok (.iastore, 1) := by decide +kernel
theorem d_Sn_noteFirst_25 : decode b_Sn_noteFirst 25 = .ok (.return_, 1) := by decide +kernel
theorem d_Sn_noteAll_0 : decode b_Sn_noteAll 0 = .ok (.aload_n 1, 1) := by decide +kernel
theorem d_Sn_noteAll_1 : decode b_Sn_noteAll 1 = .ok (.astore_n 2, 1) := by decide +kernel
theorem d_Sn_noteAll_2 : decode b_Sn_noteAll 2 = .ok (.aload_n 2, 1) := by decide +kernel
theorem d_Sn_noteAll_3 : decode b_Sn_noteAll 3 = .ok (.arraylength, 1) := by decide +kernel
theorem d_Sn_noteAll_4 : decode b_Sn_noteAll 4 = .ok (.istore_n 3, 1) := by decide +kernel
theorem d_Sn_noteAll_5 : decode b_Sn_noteAll 5 = .ok (.iconst 0, 1) := by decide +kernel
theorem d_Sn_noteAll_6 : decode b_Sn_noteAll 6 = .ok (.istore 4, 2) := by decide +kernel
theorem d_Sn_noteAll_8 : decode b_Sn_noteAll 8 = .ok (.iload 4, 2) := by decide +kernel
theorem d_Sn_noteAll_10 : decode b_Sn_noteAll 10 = .ok (.iload_n 3, 1) := by decide +kernel
theorem d_Sn_noteAll_11 : decode b_Sn_noteAll 11 = .ok (.if_icmp .ge 26, 3) := by decide +kernel
theorem d_Sn_noteAll_14 : decode b_Sn_noteAll 14 = .ok (.aload_n 2, 1) := by decide +kernel
theorem d_Sn_noteAll_15 : decode b_Sn_noteAll 15 = .ok (.iload 4, 2) := by decide +kernel
theorem d_Sn_noteAll_17 : decode b_Sn_noteAll 17 = .ok (.aaload, 1) := by decide +kernel
theorem d_Sn_noteAll_18 : decode b_Sn_noteAll 18 = .ok (.astore 5, 2) := by decide +kernel
theorem d_Sn_noteAll_20 : decode b_Sn_noteAll 20 = .ok (.aload 5, 2) := by decide +kernel
theorem d_Sn_noteAll_22 : decode b_Sn_noteAll 22 = .ok (.ifnull 9, 3) := by decide +kernel
theorem d_Sn_noteAll_25 : decode b_Sn_noteAll 25 = .ok (.aload_n 0, 1) := by decide +kernel
theorem d_Sn_noteAll_26 : decode b_Sn_noteAll 26 = .ok (.aload 5, 2) := by decide +kernel
theorem d_Sn_noteAll_28 : decode b_Sn_noteAll 28 = .ok (.invokevirtual 30, 3) := by decide +kernel
theorem d_Sn_noteAll_31 : decode b_Sn_noteAll 31 = .ok (.iinc 4 1, 3) := by decide +kernel
theorem d_Sn_noteAll_34 : decode b_Sn_noteAll 34 = .ok (.goto (-26), 3) := by decide +kernel
theorem d_Sn_noteAll_37 : decode b_Sn_noteAll 37 = .ok (.return_, 1) := by decide +kernel
theorem d_Sn_restoreKnown_0 : decode b_Sn_restoreKnown 0 = .ok (.aload_n 1, 1) := by decide +kernel
theorem d_Sn_restoreKnown_1 : decode b_Sn_restoreKnown 1 = .ok (.astore_n 2, 1) := by decide +kernel
theorem d_Sn_restoreKnown_2 : decode b_Sn_restoreKnown 2 = .ok (.aload_n 2, 1) := by decide +kernel
theorem d_Sn_restoreKnown_3 : decode b_Sn_restoreKnown 3 = .ok (.arraylength, 1) := by decide +kernel
theorem d_Sn_restoreKnown_4 : decode b_Sn_restoreKnown 4 = .ok (.istore_n 3, 1) := by decide +kernel
theorem d_Sn_restoreKnown_5 : decode b_Sn_restoreKnown 5 = .ok (.iconst 0, 1) := by decide +kernel
theorem d_Sn_restoreKnown_6 : decode b_Sn_restoreKnown 6 = .ok (.istore 4, 2) := by decide +kernel
theorem d_Sn_restoreKnown_8 : decode b_Sn_restoreKnown 8 = .ok (.iload 4, 2) := by decide +kernel
theorem d_Sn_restoreKnown_10 : decode b_Sn_restoreKnown 10 = .ok (.iload_n 3, 1) := by decide +kernel
theorem d_Sn_restoreKnown_11 : decode b_Sn_restoreKnown 11 = .ok (.if_icmp .ge 49, 3) := by decide +kernel
theorem d_Sn_restoreKnown_14 : decode b_Sn_restoreKnown 14 = .ok (.aload_n 2, 1) := by decide +kernel
theorem d_Sn_restoreKnown_15 : decode b_Sn_restoreKnown 15 = .ok (.iload 4, 2) := by decide +kernel
theorem d_Sn_restoreKnown_17 : decode b_Sn_restoreKnown 17 = .ok (.aaload, 1) := by decide +kernel
theorem d_Sn_restoreKnown_18 : decode b_Sn_restoreKnown 18 = .ok (.astore 5, 2) := by decide +kernel
theorem d_Sn_restoreKnown_20 : decode b_Sn_restoreKnown 20 = .ok (.aload 5, 2) := by decide +kernel
theorem d_Sn_restoreKnown_22 : decode b_Sn_restoreKnown 22 = .ok (.ifnull 32, 3) := by decide +kernel
theorem d_Sn_restoreKnown_25 : decode b_Sn_restoreKnown 25 = .ok (.aload_n 0, 1) := by decide +kernel
theorem d_Sn_restoreKnown_26 : decode b_Sn_restoreKnown 26 = .ok (.getfield 9, 3) := by decide +kernel
theorem d_Sn_restoreKnown_29 : decode b_Sn_restoreKnown 29 = .ok (.aload 5, 2) := by decide +kernel
theorem d_Sn_restoreKnown_31 : decode b_Sn_restoreKnown 31 = .ok (.invokevirtual 21, 3) := by decide +kernel
theorem d_Sn_restoreKnown_34 : decode b_Sn_restoreKnown 34 = .ok (.iaload, 1) := by decide +kernel
theorem d_Sn_restoreKnown_35 : decode b_Sn_restoreKnown 35 = .ok (.iconst (-1), 1) := by decide +kernel
theorem d_Sn_restoreKnown_36 : decode b_Sn_restoreKnown 36 = .ok (.if_icmp .eq 18, 3) := by decide +kernel
theorem d_Sn_restoreKnown_39 : decode b_Sn_restoreKnown 39 = .ok (.aload 5, 2) := by decide +kernel
theorem d_Sn_restoreKnown_41 : decode b_Sn_restoreKnown 41 = .ok (.aload_n 0, 1) := by decide +kernel
theorem d_Sn_restoreKnown_42 : decode b_Sn_restoreKnown 42 = .ok (.getfield 9, 3) := by decide +kernel
theorem d_Sn_restoreKnown_45 : decode b_Sn_restoreKnown 45 = .ok (.aload 5, 2) := by decide +kernel
theorem d_Sn_restoreKnown_47 : decode b_Sn_restoreKnown 47 = .ok (.invokevirtual 21, 3) := by decide +kernel
theorem d_Sn_restoreKnown_50 : decode b_Sn_restoreKnown 50 = .ok (.iaload, 1) := by decide +kernel
theorem d_Sn_restoreKnown_51 : decode b_Sn_restoreKnown 51 = .ok (.invokevirtual 34, 3) := by decide +kernel
theorem d_Sn_restoreKnown_54 : decode b_Sn_restoreKnown 54 = .ok (.iinc 4 1, 3) := by decide +kernel
theorem d_Sn_restoreKnown_57 : decode b_Sn_restoreKnown 57 = .ok (.goto (-49), 3) := by decide +kernel
theorem d_Sn_restoreKnown_60 : decode b_Sn_restoreKnown 60 = .ok (.return_, 1) := by decide +kernel
theorem d_Sn_restoreAll_0 : decode b_Sn_restoreAll 0 = .ok (.iconst 0, 1) := by decide +kernel
theorem d_Sn_restoreAll_1 : decode b_Sn_restoreAll 1 = .ok (.istore_n 2, 1) := by decide +kernel
theorem d_Sn_restoreAll_2 : decode b_Sn_restoreAll 2 = .ok (.aload_n 1, 1) := by decide +kernel
theorem d_Sn_restoreAll_3 : decode b_Sn_restoreAll 3 = .ok (.astore_n 3, 1) := by decide +kernel
theorem d_Sn_restoreAll_4 : decode b_Sn_restoreAll 4 = .ok (.aload_n 3, 1) := by decide +kernel
theorem d_Sn_restoreAll_5 : decode b_Sn_restoreAll 5 = .ok (.arraylength, 1) := by decide +kernel
theorem d_Sn_restoreAll_6 : decode b_Sn_restoreAll 6 = .ok (.istore 4, 2) := by decide +kernel
theorem d_Sn_restoreAll_8 : decode b_Sn_restoreAll 8 = .ok (.iconst 0, 1) := by decide +kernel
theorem d_Sn_restoreAll_9 : decode b_Sn_restoreAll 9 = .ok (.istore 5, 2) := by decide +kernel
theorem d_Sn_restoreAll_11 : decode b_Sn_restoreAll 11 = .ok (.iload 5, 2) := by decide +kernel
theorem d_Sn_restoreAll_13 : decode b_Sn_restoreAll 13 = .ok (.iload 4, 2) := by decide +kernel
theorem d_Sn_restoreAll_15 : decode b_Sn_restoreAll 15 = .ok (.if_icmp .ge 32, 3) := by decide +kernel
theorem d_Sn_restoreAll_18 : decode b_Sn_restoreAll 18 = .ok (.aload_n 3, 1) := by decide +kernel
theorem d_Sn_restoreAll_19 : decode b_Sn_restoreAll 19 = .ok (.iload 5, 2) := by decide +kernel
theorem d_Sn_restoreAll_21 : decode b_Sn_restoreAll 21 = .ok (.aaload, 1) := by decide +kernel
theorem d_Sn_restoreAll_22 : decode b_Sn_restoreAll 22 = .ok (.astore 6, 2) := by decide +kernel
theorem d_Sn_restoreAll_24 : decode b_Sn_restoreAll 24 = .ok (.aload 6, 2) := by decide +kernel
theorem d_Sn_restoreAll_26 : decode b_Sn_restoreAll 26 = .ok (.ifnull 15, 3) := by decide +kernel
theorem d_Sn_restoreAll_29 : decode b_Sn_restoreAll 29 = .ok (.aload_n 0, 1) := by decide +kernel
theorem d_Sn_restoreAll_30 : decode b_Sn_restoreAll 30 = .ok (.aload 6, 2) := by decide +kernel
theorem d_Sn_restoreAll_32 : decode b_Sn_restoreAll 32 = .ok (.invokevirtual 38, 3) := by decide +kernel
theorem d_Sn_restoreAll_35 : decode b_Sn_restoreAll 35 = .ok (.ifCond .eq 6, 3) := by decide +kernel
theorem d_Sn_restoreAll_38 : decode b_Sn_restoreAll 38 = .ok (.iinc 2 1, 3) := by decide +kernel
theorem d_Sn_restoreAll_41 : decode b_Sn_restoreAll 41 = .ok (.iinc 5 1, 3) := by decide +kernel
theorem d_Sn_restoreAll_44 : decode b_Sn_restoreAll 44 = .ok (.goto (-33), 3) := by decide +kernel
theorem d_Sn_restoreAll_47 : decode b_Sn_restoreAll 47 = .ok (.iload_n 2, 1) := by decide +kernel
theorem d_Sn_restoreAll_48 : decode b_Sn_restoreAll 48 = .ok (.ireturn, 1) := by decide +kernel
theorem d_Sn_restoreOne_0 : decode b_Sn_restoreOne 0 = .ok (.aload_n 1, 1) := by decide +kernel
theorem d_Sn_restoreOne_1 : decode b_Sn_restoreOne 1 = .ok (.invokevirtual 27, 3) := by decide +kernel
theorem d_Sn_restoreOne_4 : decode b_Sn_restoreOne 4 = .ok (.istore_n 2, 1) := by decide +kernel
theorem d_Sn_restoreOne_5 : decode b_Sn_restoreOne 5 = .ok (.aload_n 0, 1) := by decide +kernel
theorem d_Sn_restoreOne_6 : decode b_Sn_restoreOne 6 = .ok (.getfield 9, 3) := by decide +kernel
theorem d_Sn_restoreOne_9 : decode b_Sn_restoreOne 9 = .ok (.aload_n 1, 1) := by decide +kernel
theorem d_Sn_restoreOne_10 : decode b_Sn_restoreOne 10 = .ok (.invokevirtual 21, 3) := by decide +kernel
theorem d_Sn_restoreOne_13 : decode b_Sn_restoreOne 13 = .ok (.iaload, 1) := by decide +kernel
theorem d_Sn_restoreOne_14 : decode b_Sn_restoreOne 14 = .ok (.istore_n 3, 1) := by decide +kernel
theorem d_Sn_restoreOne_15 : decode b_Sn_restoreOne 15 = .ok (.iload_n 3, 1) := by decide +kernel
theorem d_Sn_restoreOne_16 : decode b_Sn_restoreOne 16 = .ok (.iconst (-1), 1) := by decide +kernel
theorem d_Sn_restoreOne_17 : decode b_Sn_restoreOne 17 = .ok (.if_icmp .ne 11, 3) := by decide +kernel
theorem d_Sn_restoreOne_20 : decode b_Sn_restoreOne 20 = .ok (.aload_n 1, 1) := by decide +kernel
theorem d_Sn_restoreOne_21 : decode b_Sn_restoreOne 21 = .ok (.iconst 0, 1) := by decide +kernel
theorem d_Sn_restoreOne_22 : decode b_Sn_restoreOne 22 = .ok (.putfield 42, 3) := by decide +kernel
theorem d_Sn_restoreOne_25 : decode b_Sn_restoreOne 25 = .ok (.goto 8, 3) := by decide +kernel
theorem d_Sn_restoreOne_28 : decode b_Sn_restoreOne 28 = .ok (.aload_n 1, 1) := by decide +kernel
theorem d_Sn_restoreOne_29 : decode b_Sn_restoreOne 29 = .ok (.iload_n 3, 1) := by decide +kernel
theorem d_Sn_restoreOne_30 : decode b_Sn_restoreOne 30 = .ok (.invokevirtual 34, 3) := by decide +kernel
theorem d_Sn_restoreOne_33 : decode b_Sn_restoreOne 33 = .ok (.aload_n 1, 1) := by decide +kernel
theorem d_Sn_restoreOne_34 : decode b_Sn_restoreOne 34 = .ok (.invokevirtual 27, 3) := by decide +kernel
theorem d_Sn_restoreOne_37 : decode b_Sn_restoreOne 37 = .ok (.iload_n 2, 1) := by decide +kernel
theorem d_Sn_restoreOne_38 : decode b_Sn_restoreOne 38 = .ok (.if_icmp .eq 7, 3) := by decide +kernel
theorem d_Sn_restoreOne_41 : decode b_Sn_restoreOne 41 = .ok (.iconst 1, 1) := by decide +kernel
theorem d_Sn_restoreOne_42 : decode b_Sn_restoreOne 42 = .ok (.goto 4, 3) := by decide +kernel
theorem d_Sn_restoreOne_45 : decode b_Sn_restoreOne 45 = .ok (.iconst 0, 1) := by decide +kernel
theorem d_Sn_restoreOne_46 : decode b_Sn_restoreOne 46 = .ok (.ireturn, 1) := by decide +kernel
theorem d_Ac_init_0 : decode b_Ac_init 0 = .ok (.aload_n 0, 1) := by decide +kernel
theorem d_Ac_init_1 : decode b_Ac_init 1 = .ok (.invokespecial 1, 3) := by decide +kernel
theorem d_Ac_init_4 : decode b_Ac_init 4 = .ok (.aload_n 0, 1) := by decide +kernel
theorem d_Ac_init_5 : decode b_Ac_init 5 = .ok (.new 7, 3) := by decide +kernel
theorem d_Ac_init_8 : decode b_Ac_init 8 = .ok (.dup, 1) := by decide +kernel
theorem d_Ac_init_9 : decode b_Ac_init 9 = .ok (.invokespecial 9, 3) := by decide +kernel
theorem d_Ac_init_12 : decode b_Ac_init 12 = .ok (.putfield 10, 3) := by decide +kernel
theorem d_Ac_init_15 : decode b_Ac_init 15 = .ok (.aload_n 0, 1) := by decide +kernel
theorem d_Ac_init_16 : decode b_Ac_init 16 = .ok (.iconst 1, 1) := by decide +kernel
theorem d_Ac_init_17 : decode b_Ac_init 17 = .ok (.putfield 16, 3) := by decide +kernel
theorem d_Ac_init_20 : decode b_Ac_init 20 = .ok (.aload_n 0, 1) := by decide +kernel
theorem d_Ac_init_21 : decode b_Ac_init 21 = .ok (.iconst 0, 1) := by decide +kernel
theorem d_Ac_init_22 : decode b_Ac_init 22 = .ok (.putfield 20, 3) := by decide +kernel
theorem d_Ac_init_25 : decode b_Ac_init 25 = .ok (.aload_n 0, 1) := by decide +kernel
theorem d_Ac_init_26 : decode b_Ac_init 26 = .ok (.aload_n 1, 1) := by decide +kernel
theorem d_Ac_init_27 : decode b_Ac_init 27 = .ok (.putfield 24, 3) := by decide +kernel
theorem d_Ac_init_30 : decode b_Ac_init 30 = .ok (.return_, 1) := by decide +kernel
theorem d_JI_bitCount_0 : decode b_JI_bitCount 0 = .ok (.iload_n 0, 1) := by decide +kernel
theorem d_JI_bitCount_1 : decode b_JI_bitCount 1 = .ok (.iload_n 0, 1) := by decide +kernel
theorem d_JI_bitCount_2 : decode b_JI_bitCount 2 = .ok (.iconst 1, 1) := by decide +kernel
theorem d_JI_bitCount_3 : decode b_JI_bitCount 3 = .ok (.iushr, 1) := by decide +kernel
theorem d_JI_bitCount_4 : decode b_JI_bitCount 4 = .ok (.ldc_w 265, 3) := by decide +kernel
theorem d_JI_bitCount_7 : decode b_JI_bitCount 7 = .ok (.iand, 1) := by decide +kernel
theorem d_JI_bitCount_8 : decode b_JI_bitCount 8 = .ok (.isub, 1) := by decide +kernel
theorem d_JI_bitCount_9 : decode b_JI_bitCount 9 = .ok (.istore_n 0, 1) := by decide +kernel
theorem d_JI_bitCount_10 : decode b_JI_bitCount 10 = .ok (.iload_n 0, 1) := by decide +kernel
theorem d_JI_bitCount_11 : decode b_JI_bitCount 11 = .ok (.ldc_w 266, 3) := by decide +kernel
theorem d_JI_bitCount_14 : decode b_JI_bitCount 14 = .ok (.iand, 1) := by decide +kernel
theorem d_JI_bitCount_15 : decode b_JI_bitCount 15 = .ok (.iload_n 0, 1) := by decide +kernel
theorem d_JI_bitCount_16 : decode b_JI_bitCount 16 = .ok (.iconst 2, 1) := by decide +kernel
theorem d_JI_bitCount_17 : decode b_JI_bitCount 17 = .ok (.iushr, 1) := by decide +kernel
theorem d_JI_bitCount_18 : decode b_JI_bitCount 18 = .ok (.ldc_w 266, 3) := by decide +kernel
theorem d_JI_bitCount_21 : decode b_JI_bitCount 21 = .ok (.iand, 1) := by decide +kernel
theorem d_JI_bitCount_22 : decode b_JI_bitCount 22 = .ok (.iadd, 1) := by decide +kernel
theorem d_JI_bitCount_23 : decode b_JI_bitCount 23 = .ok (.istore_n 0, 1) := by decide +kernel
theorem d_JI_bitCount_24 : decode b_JI_bitCount 24 = .ok (.iload_n 0, 1) := by decide +kernel
theorem d_JI_bitCount_25 : decode b_JI_bitCount 25 = .ok (.iload_n 0, 1) := by decide +kernel
theorem d_JI_bitCount_26 : decode b_JI_bitCount 26 = .ok (.iconst 4, 1) := by decide +kernel
theorem d_JI_bitCount_27 : decode b_JI_bitCount 27 = .ok (.iushr, 1) := by decide +kernel
theorem d_JI_bitCount_28 : decode b_JI_bitCount 28 = .ok (.iadd, 1) := by decide +kernel
theorem d_JI_bitCount_29 : decode b_JI_bitCount 29 = .ok (.ldc_w 267, 3) := by decide +kernel
theorem d_JI_bitCount_32 : decode b_JI_bitCount 32 = .ok (.iand, 1) := by decide +kernel
theorem d_JI_bitCount_33 : decode b_JI_bitCount 33 = .ok (.istore_n 0, 1) := by decide +kernel
theorem d_JI_bitCount_34 : decode b_JI_bitCount 34 = .ok (.iload_n 0, 1) := by decide +kernel
theorem d_JI_bitCount_35 : decode b_JI_bitCount 35 = .ok (.iload_n 0, 1) := by decide +kernel
theorem d_JI_bitCount_36 : decode b_JI_bitCount 36 = .ok (.bipush 8, 2) := by decide +kernel
theorem d_JI_bitCount_38 : decode b_JI_bitCount 38 = .ok (.iushr, 1) := by decide +kernel
theorem d_JI_bitCount_39 : decode b_JI_bitCount 39 = .ok (.iadd, 1) := by decide +kernel
theorem d_JI_bitCount_40 : decode b_JI_bitCount 40 = .ok (.istore_n 0, 1) := by decide +kernel
theorem d_JI_bitCount_41 : decode b_JI_bitCount 41 = .ok (.iload_n 0, 1) := by decide +kernel
theorem d_JI_bitCount_42 : decode b_JI_bitCount 42 = .ok (.iload_n 0, 1) := by decide +kernel
theorem d_JI_bitCount_43 : decode b_JI_bitCount 43 = .ok (.bipush 16, 2) := by decide +kernel
theorem d_JI_bitCount_45 : decode b_JI_bitCount 45 = .ok (.iushr, 1) := by decide +kernel
theorem d_JI_bitCount_46 : decode b_JI_bitCount 46 = .ok (.iadd, 1) := by decide +kernel
theorem d_JI_bitCount_47 : decode b_JI_bitCount 47 = .ok (.istore_n 0, 1) := by decide +kernel
theorem d_JI_bitCount_48 : decode b_JI_bitCount 48 = .ok (.iload_n 0, 1) := by decide +kernel
theorem d_JI_bitCount_49 : decode b_JI_bitCount 49 = .ok (.bipush 63, 2) := by decide +kernel
theorem d_JI_bitCount_51 : decode b_JI_bitCount 51 = .ok (.iand, 1) := by decide +kernel
theorem d_JI_bitCount_52 : decode b_JI_bitCount 52 = .ok (.ireturn, 1) := by decide +kernel
theorem d_JA_fill_0 : decode b_JA_fill 0 = .ok (.iconst 0, 1) := by decide +kernel
theorem d_JA_fill_1 : decode b_JA_fill 1 = .ok (.istore_n 2, 1) := by decide +kernel
theorem d_JA_fill_2 : decode b_JA_fill 2 = .ok (.aload_n 0, 1) := by decide +kernel
theorem d_JA_fill_3 : decode b_JA_fill 3 = .ok (.arraylength, 1) := by decide +kernel
theorem d_JA_fill_4 : decode b_JA_fill 4 = .ok (.istore_n 3, 1) := by decide +kernel
theorem d_JA_fill_5 : decode b_JA_fill 5 = .ok (.iload_n 2, 1) := by decide +kernel
theorem d_JA_fill_6 : decode b_JA_fill 6 = .ok (.iload_n 3, 1) := by decide +kernel
theorem d_JA_fill_7 : decode b_JA_fill 7 = .ok (.if_icmp .ge 13, 3) := by decide +kernel
theorem d_JA_fill_10 : decode b_JA_fill 10 = .ok (.aload_n 0, 1) := by decide +kernel
theorem d_JA_fill_11 : decode b_JA_fill 11 = .ok (.iload_n 2, 1) := by decide +kernel
theorem d_JA_fill_12 : decode b_JA_fill 12 = .ok (.iload_n 1, 1) := by decide +kernel
theorem d_JA_fill_13 : decode b_JA_fill 13 = .ok (.iastore, 1) := by decide +kernel
theorem d_JA_fill_14 : decode b_JA_fill 14 = .ok (.iinc 2 1, 3) := by decide +kernel
theorem d_JA_fill_17 : decode b_JA_fill 17 = .ok (.goto (-12), 3) := by decide +kernel
theorem d_JA_fill_20 : decode b_JA_fill 20 = .ok (.return_, 1) := by decide +kernel
