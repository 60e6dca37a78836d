theorem d_Sh_init_0 : decode b_Sh_init 0 = .ok (.aload_n 0, 1) := by decide +kernel
theorem d_Sh_init_1 : decode b_Sh_init 1 = .ok (.invokespecial 3, 3) := by decide +kernel
theorem d_Sh_init_4 : decode b_Sh_init 4 = .ok (.aload_n 0, 1) := by decide +kernel
theorem d_Sh_init_5 : decode b_Sh_init 5 = .ok (.bipush 24, 2) := by decide +kernel
theorem d_Sh_init_7 : decode b_Sh_init 7 = .ok (.newarray .int, 2) := by decide +kernel
theorem d_Sh_init_9 : decode b_Sh_init 9 = .ok (.putfield 9, 3) := by decide +kernel
theorem d_Sh_init_12 : decode b_Sh_init 12 = .ok (.return_, 1) := by decide +kernel
theorem d_Sh_clear_0 : decode b_Sh_clear 0 = .ok (.aload_n 0, 1) := by decide +kernel
theorem d_Sh_clear_1 : decode b_Sh_clear 1 = .ok (.getfield 9, 3) := by decide +kernel
theorem d_Sh_clear_4 : decode b_Sh_clear 4 = .ok (.iconst 0, 1) := by decide +kernel
theorem d_Sh_clear_5 : decode b_Sh_clear 5 = .ok (.invokestatic 15, 3) := by decide +kernel
theorem d_Sh_clear_8 : decode b_Sh_clear 8 = .ok (.return_, 1) := by decide +kernel
theorem d_Sh_addAll_0 : decode b_Sh_addAll 0 = .ok (.aload_n 0, 1) := by decide +kernel
theorem d_Sh_addAll_1 : decode b_Sh_addAll 1 = .ok (.getfield 9, 3) := by decide +kernel
theorem d_Sh_addAll_4 : decode b_Sh_addAll 4 = .ok (.iconst (-1), 1) := by decide +kernel
theorem d_Sh_addAll_5 : decode b_Sh_addAll 5 = .ok (.invokestatic 15, 3) := by decide +kernel
theorem d_Sh_addAll_8 : decode b_Sh_addAll 8 = .ok (.return_, 1) := by decide +kernel
theorem d_Sh_add_0 : decode b_Sh_add 0 = .ok (.aload_n 1, 1) := by decide +kernel
theorem d_Sh_add_1 : decode b_Sh_add 1 = .ok (.getfield 21, 3) := by decide +kernel
theorem d_Sh_add_4 : decode b_Sh_add 4 = .ok (.aload_n 1, 1) := by decide +kernel
theorem d_Sh_add_5 : decode b_Sh_add 5 = .ok (.getfield 27, 3) := by decide +kernel
theorem d_Sh_add_8 : decode b_Sh_add 8 = .ok (.invokestatic 30, 3) := by decide +kernel
theorem d_Sh_add_11 : decode b_Sh_add 11 = .ok (.istore_n 2, 1) := by decide +kernel
theorem d_Sh_add_12 : decode b_Sh_add 12 = .ok (.iconst 0, 1) := by decide +kernel
theorem d_Sh_add_13 : decode b_Sh_add 13 = .ok (.aload_n 1, 1) := by decide +kernel
theorem d_Sh_add_14 : decode b_Sh_add 14 = .ok (.getfield 34, 3) := by decide +kernel
theorem d_Sh_add_17 : decode b_Sh_add 17 = .ok (.invokestatic 37, 3) := by decide +kernel
theorem d_Sh_add_20 : decode b_Sh_add 20 = .ok (.istore_n 3, 1) := by decide +kernel
theorem d_Sh_add_21 : decode b_Sh_add 21 = .ok (.iload_n 3, 1) := by decide +kernel
theorem d_Sh_add_22 : decode b_Sh_add 22 = .ok (.aload_n 1, 1) := by decide +kernel
theorem d_Sh_add_23 : decode b_Sh_add 23 = .ok (.getfield 42, 3) := by decide +kernel
theorem d_Sh_add_26 : decode b_Sh_add 26 = .ok (.if_icmp .gt 25, 3) := by decide +kernel
theorem d_Sh_add_29 : decode b_Sh_add 29 = .ok (.iload_n 3, 1) := by decide +kernel
theorem d_Sh_add_30 : decode b_Sh_add 30 = .ok (.bipush 24, 2) := by decide +kernel
theorem d_Sh_add_32 : decode b_Sh_add 32 = .ok (.if_icmp .ge 19, 3) := by decide +kernel
theorem d_Sh_add_35 : decode b_Sh_add 35 = .ok (.aload_n 0, 1) := by decide +kernel
theorem d_Sh_add_36 : decode b_Sh_add 36 = .ok (.getfield 9, 3) := by decide +kernel
theorem d_Sh_add_39 : decode b_Sh_add 39 = .ok (.iload_n 3, 1) := by decide +kernel
theorem d_Sh_add_40 : decode b_Sh_add 40 = .ok (.dup2, 1) := by decide +kernel
theorem d_Sh_add_41 : decode b_Sh_add 41 = .ok (.iaload, 1) := by decide +kernel
theorem d_Sh_add_42 : decode b_Sh_add 42 = .ok (.iload_n 2, 1) := by decide +kernel
theorem d_Sh_add_43 : decode b_Sh_add 43 = .ok (.ior, 1) := by decide +kernel
theorem d_Sh_add_44 : decode b_Sh_add 44 = .ok (.iastore, 1) := by decide +kernel
theorem d_Sh_add_45 : decode b_Sh_add 45 = .ok (.iinc 3 1, 3) := by decide +kernel
theorem d_Sh_add_48 : decode b_Sh_add 48 = .ok (.goto (-27), 3) := by decide +kernel
theorem d_Sh_add_51 : decode b_Sh_add 51 = .ok (.return_, 1) := by decide +kernel
theorem d_Sh_removeWithin_0 : decode b_Sh_removeWithin 0 = .ok (.aload_n 1, 1) := by decide +kernel
theorem d_Sh_removeWithin_1 : decode b_Sh_removeWithin 1 = .ok (.getfield 21, 3) := by decide +kernel
theorem d_Sh_removeWithin_4 : decode b_Sh_removeWithin 4 = .ok (.iload_n 2, 1) := by decide +kernel
theorem d_Sh_removeWithin_5 : decode b_Sh_removeWithin 5 = .ok (.isub, 1) := by decide +kernel
theorem d_Sh_removeWithin_6 : decode b_Sh_removeWithin 6 = .ok (.aload_n 1, 1) := by decide +kernel
theorem d_Sh_removeWithin_7 : decode b_Sh_removeWithin 7 = .ok (.getfield 27, 3) := by decide +kernel
theorem d_Sh_removeWithin_10 : decode b_Sh_removeWithin 10 = .ok (.iload_n 2, 1) := by decide +kernel
theorem d_Sh_removeWithin_11 : decode b_Sh_removeWithin 11 = .ok (.iadd, 1) := by decide +kernel
theorem d_Sh_removeWithin_12 : decode b_Sh_removeWithin 12 = .ok (.invokestatic 30, 3) := by decide +kernel
theorem d_Sh_removeWithin_15 : decode b_Sh_removeWithin 15 = .ok (.istore_n 3, 1) := by decide +kernel
theorem d_Sh_removeWithin_16 : decode b_Sh_removeWithin 16 = .ok (.iconst 0, 1) := by decide +kernel
theorem d_Sh_removeWithin_17 : decode b_Sh_removeWithin 17 = .ok (.aload_n 1, 1) := by decide +kernel
theorem d_Sh_removeWithin_18 : decode b_Sh_removeWithin 18 = .ok (.getfield 34, 3) := by decide +kernel
theorem d_Sh_removeWithin_21 : decode b_Sh_removeWithin 21 = .ok (.iload_n 2, 1) := by decide +kernel
theorem d_Sh_removeWithin_22 : decode b_Sh_removeWithin 22 = .ok (.isub, 1) := by decide +kernel
theorem d_Sh_removeWithin_23 : decode b_Sh_removeWithin 23 = .ok (.invokestatic 37, 3) := by decide +kernel
theorem d_Sh_removeWithin_26 : decode b_Sh_removeWithin 26 = .ok (.istore 4, 2) := by decide +kernel
theorem d_Sh_removeWithin_28 : decode b_Sh_removeWithin 28 = .ok (.iload 4, 2) := by decide +kernel
theorem d_Sh_removeWithin_30 : decode b_Sh_removeWithin 30 = .ok (.aload_n 1, 1) := by decide +kernel
theorem d_Sh_removeWithin_31 : decode b_Sh_removeWithin 31 = .ok (.getfield 42, 3) := by decide +kernel
theorem d_Sh_removeWithin_34 : decode b_Sh_removeWithin 34 = .ok (.iload_n 2, 1) := by decide +kernel
theorem d_Sh_removeWithin_35 : decode b_Sh_removeWithin 35 = .ok (.iadd, 1) := by decide +kernel
theorem d_Sh_removeWithin_36 : decode b_Sh_removeWithin 36 = .ok (.if_icmp .gt 29, 3) := by decide +kernel
theorem d_Sh_removeWithin_39 : decode b_Sh_removeWithin 39 = .ok (.iload 4, 2) := by decide +kernel
theorem d_Sh_removeWithin_41 : decode b_Sh_removeWithin 41 = .ok (.bipush 24, 2) := by decide +kernel
theorem d_Sh_removeWithin_43 : decode b_Sh_removeWithin 43 = .ok (.if_icmp .ge 22, 3) := by decide +kernel
theorem d_Sh_removeWithin_46 : decode b_Sh_removeWithin 46 = .ok (.aload_n 0, 1) := by decide +kernel
theorem d_Sh_removeWithin_47 : decode b_Sh_removeWithin 47 = .ok (.getfield 9, 3) := by decide +kernel
theorem d_Sh_removeWithin_50 : decode b_Sh_removeWithin 50 = .ok (.iload 4, 2) := by decide +kernel
theorem d_Sh_removeWithin_52 : decode b_Sh_removeWithin 52 = .ok (.dup2, 1) := by decide +kernel
theorem d_Sh_removeWithin_53 : decode b_Sh_removeWithin 53 = .ok (.iaload, 1) := by decide +kernel
theorem d_Sh_removeWithin_54 : decode b_Sh_removeWithin 54 = .ok (.iload_n 3, 1) := by decide +kernel
theorem d_Sh_removeWithin_55 : decode b_Sh_removeWithin 55 = .ok (.iconst (-1), 1) := by decide +kernel
theorem d_Sh_removeWithin_56 : decode b_Sh_removeWithin 56 = .ok (.ixor, 1) := by decide +kernel
theorem d_Sh_removeWithin_57 : decode b_Sh_removeWithin 57 = .ok (.iand, 1) := by decide +kernel
theorem d_Sh_removeWithin_58 : decode b_Sh_removeWithin 58 = .ok (.iastore, 1) := by decide +kernel
theorem d_Sh_removeWithin_59 : decode b_Sh_removeWithin 59 = .ok (.iinc 4 1, 3) := by decide +kernel
theorem d_Sh_removeWithin_62 : decode b_Sh_removeWithin 62 = .ok (.goto (-34), 3) := by decide +kernel
theorem d_Sh_removeWithin_65 : decode b_Sh_removeWithin 65 = .ok (.return_, 1) := by decide +kernel
theorem d_Sh_hasFirstOf_0 : decode b_Sh_hasFirstOf 0 = .ok (.aload_n 1, 1) := by decide +kernel
theorem d_Sh_hasFirstOf_1 : decode b_Sh_hasFirstOf 1 = .ok (.getfield 34, 3) := by decide +kernel
theorem d_Sh_hasFirstOf_4 : decode b_Sh_hasFirstOf 4 = .ok (.istore_n 2, 1) := by decide +kernel
theorem d_Sh_hasFirstOf_5 : decode b_Sh_hasFirstOf 5 = .ok (.iload_n 2, 1) := by decide +kernel
theorem d_Sh_hasFirstOf_6 : decode b_Sh_hasFirstOf 6 = .ok (.ifCond .lt 34, 3) := by decide +kernel
theorem d_Sh_hasFirstOf_9 : decode b_Sh_hasFirstOf 9 = .ok (.iload_n 2, 1) := by decide +kernel
theorem d_Sh_hasFirstOf_10 : decode b_Sh_hasFirstOf 10 = .ok (.bipush 24, 2) := by decide +kernel
theorem d_Sh_hasFirstOf_12 : decode b_Sh_hasFirstOf 12 = .ok (.if_icmp .ge 28, 3) := by decide +kernel
theorem d_Sh_hasFirstOf_15 : decode b_Sh_hasFirstOf 15 = .ok (.aload_n 0, 1) := by decide +kernel
theorem d_Sh_hasFirstOf_16 : decode b_Sh_hasFirstOf 16 = .ok (.getfield 9, 3) := by decide +kernel
theorem d_Sh_hasFirstOf_19 : decode b_Sh_hasFirstOf 19 = .ok (.iload_n 2, 1) := by decide +kernel
theorem d_Sh_hasFirstOf_20 : decode b_Sh_hasFirstOf 20 = .ok (.iaload, 1) := by decide +kernel
theorem d_Sh_hasFirstOf_21 : decode b_Sh_hasFirstOf 21 = .ok (.aload_n 1, 1) := by decide +kernel
theorem d_Sh_hasFirstOf_22 : decode b_Sh_hasFirstOf 22 = .ok (.getfield 21, 3) := by decide +kernel
theorem d_Sh_hasFirstOf_25 : decode b_Sh_hasFirstOf 25 = .ok (.aload_n 1, 1) := by decide +kernel
theorem d_Sh_hasFirstOf_26 : decode b_Sh_hasFirstOf 26 = .ok (.getfield 21, 3) := by decide +kernel
theorem d_Sh_hasFirstOf_29 : decode b_Sh_hasFirstOf 29 = .ok (.invokestatic 30, 3) := by decide +kernel
theorem d_Sh_hasFirstOf_32 : decode b_Sh_hasFirstOf 32 = .ok (.iand, 1) := by decide +kernel
theorem d_Sh_hasFirstOf_33 : decode b_Sh_hasFirstOf 33 = .ok (.ifCond .eq 7, 3) := by decide +kernel
theorem d_Sh_hasFirstOf_36 : decode b_Sh_hasFirstOf 36 = .ok (.iconst 1, 1) := by decide +kernel
theorem d_Sh_hasFirstOf_37 : decode b_Sh_hasFirstOf 37 = .ok (.goto 4, 3) := by decide +kernel
theorem d_Sh_hasFirstOf_40 : decode b_Sh_hasFirstOf 40 = .ok (.iconst 0, 1) := by decide +kernel
theorem d_Sh_hasFirstOf_41 : decode b_Sh_hasFirstOf 41 = .ok (.ireturn, 1) := by decide +kernel
theorem d_Sh_keepOnly_0 : decode b_Sh_keepOnly 0 = .ok (.iconst 0, 1) := by decide +kernel
theorem d_Sh_keepOnly_1 : decode b_Sh_keepOnly 1 = .ok (.istore_n 2, 1) := by decide +kernel
theorem d_Sh_keepOnly_2 : decode b_Sh_keepOnly 2 = .ok (.iload_n 2, 1) := by decide +kernel
theorem d_Sh_keepOnly_3 : decode b_Sh_keepOnly 3 = .ok (.bipush 24, 2) := by decide +kernel
theorem d_Sh_keepOnly_5 : decode b_Sh_keepOnly 5 = .ok (.if_icmp .ge 24, 3) := by decide +kernel
theorem d_Sh_keepOnly_8 : decode b_Sh_keepOnly 8 = .ok (.aload_n 0, 1) := by decide +kernel
theorem d_Sh_keepOnly_9 : decode b_Sh_keepOnly 9 = .ok (.getfield 9, 3) := by decide +kernel
theorem d_Sh_keepOnly_12 : decode b_Sh_keepOnly 12 = .ok (.iload_n 2, 1) := by decide +kernel
theorem d_Sh_keepOnly_13 : decode b_Sh_keepOnly 13 = .ok (.dup2, 1) := by decide +kernel
theorem d_Sh_keepOnly_14 : decode b_Sh_keepOnly 14 = .ok (.iaload, 1) := by decide +kernel
theorem d_Sh_keepOnly_15 : decode b_Sh_keepOnly 15 = .ok (.aload_n 1, 1) := by decide +kernel
theorem d_Sh_keepOnly_16 : decode b_Sh_keepOnly 16 = .ok (.getfield 9, 3) := by decide +kernel
theorem d_Sh_keepOnly_19 : decode b_Sh_keepOnly 19 = .ok (.iload_n 2, 1) := by decide +kernel
theorem d_Sh_keepOnly_20 : decode b_Sh_keepOnly 20 = .ok (.iaload, 1) := by decide +kernel
theorem d_Sh_keepOnly_21 : decode b_Sh_keepOnly 21 = .ok (.iand, 1) := by decide +kernel
theorem d_Sh_keepOnly_22 : decode b_Sh_keepOnly 22 = .ok (.iastore, 1) := by decide +kernel
theorem d_Sh_keepOnly_23 : decode b_Sh_keepOnly 23 = .ok (.iinc 2 1, 3) := by decide +kernel
theorem d_Sh_keepOnly_26 : decode b_Sh_keepOnly 26 = .ok (.goto (-24), 3) := by decide +kernel
theorem d_Sh_keepOnly_29 : decode b_Sh_keepOnly 29 = .ok (.return_, 1) := by decide +kernel
theorem d_Sh_size_0 : decode b_Sh_size 0 = .ok (.iconst 0, 1) := by decide +kernel
theorem d_Sh_size_1 : decode b_Sh_size 1 = .ok (.istore_n 1, 1) := by decide +kernel
theorem d_Sh_size_2 : decode b_Sh_size 2 = .ok (.aload_n 0, 1) := by decide +kernel
theorem d_Sh_size_3 : decode b_Sh_size 3 = .ok (.getfield 9, 3) := by decide +kernel
theorem d_Sh_size_6 : decode b_Sh_size 6 = .ok (.astore_n 2, 1) := by decide +kernel
theorem d_Sh_size_7 : decode b_Sh_size 7 = .ok (.aload_n 2, 1) := by decide +kernel
theorem d_Sh_size_8 : decode b_Sh_size 8 = .ok (.arraylength, 1) := by decide +kernel
theorem d_Sh_size_9 : decode b_Sh_size 9 = .ok (.istore_n 3, 1) := by decide +kernel
theorem d_Sh_size_10 : decode b_Sh_size 10 = .ok (.iconst 0, 1) := by decide +kernel
theorem d_Sh_size_11 : decode b_Sh_size 11 = .ok (.istore 4, 2) := by decide +kernel
theorem d_Sh_size_13 : decode b_Sh_size 13 = .ok (.iload 4, 2) := by decide +kernel
theorem d_Sh_size_15 : decode b_Sh_size 15 = .ok (.iload_n 3, 1) := by decide +kernel
theorem d_Sh_size_16 : decode b_Sh_size 16 = .ok (.if_icmp .ge 23, 3) := by decide +kernel
theorem d_Sh_size_19 : decode b_Sh_size 19 = .ok (.aload_n 2, 1) := by decide +kernel
theorem d_Sh_size_20 : decode b_Sh_size 20 = .ok (.iload 4, 2) := by decide +kernel
theorem d_Sh_size_22 : decode b_Sh_size 22 = .ok (.iaload, 1) := by decide +kernel
theorem d_Sh_size_23 : decode b_Sh_size 23 = .ok (.istore 5, 2) := by decide +kernel
theorem d_Sh_size_25 : decode b_Sh_size 25 = .ok (.iload_n 1, 1) := by decide +kernel
theorem d_Sh_size_26 : decode b_Sh_size 26 = .ok (.iload 5, 2) := by decide +kernel
theorem d_Sh_size_28 : decode b_Sh_size 28 = .ok (.invokestatic 45, 3) := by decide +kernel
theorem d_Sh_size_31 : decode b_Sh_size 31 = .ok (.iadd, 1) := by decide +kernel
theorem d_Sh_size_32 : decode b_Sh_size 32 = .ok (.istore_n 1, 1) := by decide +kernel
theorem d_Sh_size_33 : decode b_Sh_size 33 = .ok (.iinc 4 1, 3) := by decide +kernel
theorem d_Sh_size_36 : decode b_Sh_size 36 = .ok (.goto (-23), 3) := by decide +kernel
theorem d_Sh_size_39 : decode b_Sh_size 39 = .ok (.iload_n 1, 1) := by decide +kernel
theorem d_Sh_size_40 : decode b_Sh_size 40 = .ok (.ireturn, 1) := by decide +kernel
theorem d_Sh_growThrough_0 : decode b_Sh_growThrough 0 = .ok (.iconst 0, 1) := by decide +kernel
theorem d_Sh_growThrough_1 : decode b_Sh_growThrough 1 = .ok (.istore_n 2, 1) := by decide +kernel
theorem d_Sh_growThrough_2 : decode b_Sh_growThrough 2 = .ok (.iconst 1, 1) := by decide +kernel
theorem d_Sh_growThrough_3 : decode b_Sh_growThrough 3 = .ok (.istore_n 3, 1) := by decide +kernel
theorem d_Sh_growThrough_4 : decode b_Sh_growThrough 4 = .ok (.iconst 0, 1) := by decide +kernel
theorem d_Sh_growThrough_5 : decode b_Sh_growThrough 5 = .ok (.istore 4, 2) := by decide +kernel
theorem d_Sh_growThrough_7 : decode b_Sh_growThrough 7 = .ok (.iload_n 3, 1) := by decide +kernel
theorem d_Sh_growThrough_8 : decode b_Sh_growThrough 8 = .ok (.ifCond .eq 104, 3) := by decide +kernel
theorem d_Sh_growThrough_11 : decode b_Sh_growThrough 11 = .ok (.iload 4, 2) := by decide +kernel
theorem d_Sh_growThrough_13 : decode b_Sh_growThrough 13 = .ok (.sipush 3072, 3) := by decide +kernel
theorem d_Sh_growThrough_16 : decode b_Sh_growThrough 16 = .ok (.if_icmp .gt 96, 3) := by decide +kernel
theorem d_Sh_growThrough_19 : decode b_Sh_growThrough 19 = .ok (.iconst 0, 1) := by decide +kernel
theorem d_Sh_growThrough_20 : decode b_Sh_growThrough 20 = .ok (.istore_n 3, 1) := by decide +kernel
theorem d_Sh_growThrough_21 : decode b_Sh_growThrough 21 = .ok (.iconst 0, 1) := by decide +kernel
theorem d_Sh_growThrough_22 : decode b_Sh_growThrough 22 = .ok (.istore 5, 2) := by decide +kernel
theorem d_Sh_growThrough_24 : decode b_Sh_growThrough 24 = .ok (.iload 5, 2) := by decide +kernel
theorem d_Sh_growThrough_26 : decode b_Sh_growThrough 26 = .ok (.bipush 24, 2) := by decide +kernel
theorem d_Sh_growThrough_28 : decode b_Sh_growThrough 28 = .ok (.if_icmp .ge 29, 3) := by decide +kernel
theorem d_Sh_growThrough_31 : decode b_Sh_growThrough 31 = .ok (.aload_n 0, 1) := by decide +kernel
theorem d_Sh_growThrough_32 : decode b_Sh_growThrough 32 = .ok (.iload 5, 2) := by decide +kernel
theorem d_Sh_growThrough_34 : decode b_Sh_growThrough 34 = .ok (.aload_n 1, 1) := by decide +kernel
theorem d_Sh_growThrough_35 : decode b_Sh_growThrough 35 = .ok (.invokevirtual 51, 3) := by decide +kernel
theorem d_Sh_growThrough_38 : decode b_Sh_growThrough 38 = .ok (.ifCond .ne 7, 3) := by decide +kernel
theorem d_Sh_growThrough_41 : decode b_Sh_growThrough 41 = .ok (.iload_n 3, 1) := by decide +kernel
theorem d_Sh_growThrough_42 : decode b_Sh_growThrough 42 = .ok (.ifCond .eq 7, 3) := by decide +kernel
theorem d_Sh_growThrough_45 : decode b_Sh_growThrough 45 = .ok (.iconst 1, 1) := by decide +kernel
theorem d_Sh_growThrough_46 : decode b_Sh_growThrough 46 = .ok (.goto 4, 3) := by decide +kernel
theorem d_Sh_growThrough_49 : decode b_Sh_growThrough 49 = .ok (.iconst 0, 1) := by decide +kernel
theorem d_Sh_growThrough_50 : decode b_Sh_growThrough 50 = .ok (.istore_n 3, 1) := by decide +kernel
theorem d_Sh_growThrough_51 : decode b_Sh_growThrough 51 = .ok (.iinc 5 1, 3) := by decide +kernel
theorem d_Sh_growThrough_54 : decode b_Sh_growThrough 54 = .ok (.goto (-30), 3) := by decide +kernel
theorem d_Sh_growThrough_57 : decode b_Sh_growThrough 57 = .ok (.bipush 23, 2) := by decide +kernel
theorem d_Sh_growThrough_59 : decode b_Sh_growThrough 59 = .ok (.istore 5, 2) := by decide +kernel
theorem d_Sh_growThrough_61 : decode b_Sh_growThrough 61 = .ok (.iload 5, 2) := by decide +kernel
theorem d_Sh_growThrough_63 : decode b_Sh_growThrough 63 = .ok (.ifCond .lt 29, 3) := by decide +kernel
theorem d_Sh_growThrough_66 : decode b_Sh_growThrough 66 = .ok (.aload_n 0, 1) := by decide +kernel
theorem d_Sh_growThrough_67 : decode b_Sh_growThrough 67 = .ok (.iload 5, 2) := by decide +kernel
theorem d_Sh_growThrough_69 : decode b_Sh_growThrough 69 = .ok (.aload_n 1, 1) := by decide +kernel
theorem d_Sh_growThrough_70 : decode b_Sh_growThrough 70 = .ok (.invokevirtual 51, 3) := by decide +kernel
theorem d_Sh_growThrough_73 : decode b_Sh_growThrough 73 = .ok (.ifCond .ne 7, 3) := by decide +kernel
theorem d_Sh_growThrough_76 : decode b_Sh_growThrough 76 = .ok (.iload_n 3, 1) := by decide +kernel
theorem d_Sh_growThrough_77 : decode b_Sh_growThrough 77 = .ok (.ifCond .eq 7, 3) := by decide +kernel
theorem d_Sh_growThrough_80 : decode b_Sh_growThrough 80 = .ok (.iconst 1, 1) := by decide +kernel
theorem d_Sh_growThrough_81 : decode b_Sh_growThrough 81 = .ok (.goto 4, 3) := by decide +kernel
theorem d_Sh_growThrough_84 : decode b_Sh_growThrough 84 = .ok (.iconst 0, 1) := by decide +kernel
theorem d_Sh_growThrough_85 : decode b_Sh_growThrough 85 = .ok (.istore_n 3, 1) := by decide +kernel
theorem d_Sh_growThrough_86 : decode b_Sh_growThrough 86 = .ok (.iinc 5 (-1), 3) := by decide +kernel
theorem d_Sh_growThrough_89 : decode b_Sh_growThrough 89 = .ok (.goto (-28), 3) := by decide +kernel
theorem d_Sh_growThrough_92 : decode b_Sh_growThrough 92 = .ok (.iload_n 2, 1) := by decide +kernel
theorem d_Sh_growThrough_93 : decode b_Sh_growThrough 93 = .ok (.ifCond .ne 7, 3) := by decide +kernel
theorem d_Sh_growThrough_96 : decode b_Sh_growThrough 96 = .ok (.iload_n 3, 1) := by decide +kernel
theorem d_Sh_growThrough_97 : decode b_Sh_growThrough 97 = .ok (.ifCond .eq 7, 3) := by decide +kernel
theorem d_Sh_growThrough_100 : decode b_Sh_growThrough 100 = .ok (.iconst 1, 1) := by decide +kernel
theorem d_Sh_growThrough_101 : decode b_Sh_growThrough 101 = .ok (.goto 4, 3) := by decide +kernel
theorem d_Sh_growThrough_104 : decode b_Sh_growThrough 104 = .ok (.iconst 0, 1) := by decide +kernel
theorem d_Sh_growThrough_105 : decode b_Sh_growThrough 105 = .ok (.istore_n 2, 1) := by decide +kernel
theorem d_Sh_growThrough_106 : decode b_Sh_growThrough 106 = .ok (.iinc 4 1, 3) := by decide +kernel
theorem d_Sh_growThrough_109 : decode b_Sh_growThrough 109 = .ok (.goto (-102), 3) := by decide +kernel
theorem d_Sh_growThrough_112 : decode b_Sh_growThrough 112 = .ok (.iload_n 2, 1) := by decide +kernel
theorem d_Sh_growThrough_113 : decode b_Sh_growThrough 113 = .ok (.ireturn, 1) := by decide +kernel
theorem d_Sh_growRow_0 : decode b_Sh_growRow 0 = .ok (.aload_n 0, 1) := by decide +kernel
theorem d_Sh_growRow_1 : decode b_Sh_growRow 1 = .ok (.getfield 9, 3) := by decide +kernel
theorem d_Sh_growRow_4 : decode b_Sh_growRow 4 = .ok (.iload_n 1, 1) := by decide +kernel
theorem d_Sh_growRow_5 : decode b_Sh_growRow 5 = .ok (.iaload, 1) := by decide +kernel
theorem d_Sh_growRow_6 : decode b_Sh_growRow 6 = .ok (.istore_n 3, 1) := by decide +kernel
theorem d_Sh_growRow_7 : decode b_Sh_growRow 7 = .ok (.iload_n 3, 1) := by decide +kernel
theorem d_Sh_growRow_8 : decode b_Sh_growRow 8 = .ok (.istore 4, 2) := by decide +kernel
theorem d_Sh_growRow_10 : decode b_Sh_growRow 10 = .ok (.iload_n 1, 1) := by decide +kernel
theorem d_Sh_growRow_11 : decode b_Sh_growRow 11 = .ok (.ifCond .le 16, 3) := by decide +kernel
theorem d_Sh_growRow_14 : decode b_Sh_growRow 14 = .ok (.iload 4, 2) := by decide +kernel
theorem d_Sh_growRow_16 : decode b_Sh_growRow 16 = .ok (.aload_n 0, 1) := by decide +kernel
theorem d_Sh_growRow_17 : decode b_Sh_growRow 17 = .ok (.getfield 9, 3) := by decide +kernel
theorem d_Sh_growRow_20 : decode b_Sh_growRow 20 = .ok (.iload_n 1, 1) := by decide +kernel
theorem d_Sh_growRow_21 : decode b_Sh_growRow 21 = .ok (.iconst 1, 1) := by decide +kernel
theorem d_Sh_growRow_22 : decode b_Sh_growRow 22 = .ok (.isub, 1) := by decide +kernel
theorem d_Sh_growRow_23 : decode b_Sh_growRow 23 = .ok (.iaload, 1) := by decide +kernel
theorem d_Sh_growRow_24 : decode b_Sh_growRow 24 = .ok (.ior, 1) := by decide +kernel
theorem d_Sh_growRow_25 : decode b_Sh_growRow 25 = .ok (.istore 4, 2) := by decide +kernel
theorem d_Sh_growRow_27 : decode b_Sh_growRow 27 = .ok (.iload_n 1, 1) := by decide +kernel
theorem d_Sh_growRow_28 : decode b_Sh_growRow 28 = .ok (.bipush 23, 2) := by decide +kernel
theorem d_Sh_growRow_30 : decode b_Sh_growRow 30 = .ok (.if_icmp .ge 16, 3) := by decide +kernel
theorem d_Sh_growRow_33 : decode b_Sh_growRow 33 = .ok (.iload 4, 2) := by decide +kernel
theorem d_Sh_growRow_35 : decode b_Sh_growRow 35 = .ok (.aload_n 0, 1) := by decide +kernel
theorem d_Sh_growRow_36 : decode b_Sh_growRow 36 = .ok (.getfield 9, 3) := by decide +kernel
theorem d_Sh_growRow_39 : decode b_Sh_growRow 39 = .ok (.iload_n 1, 1) := by decide +kernel
theorem d_Sh_growRow_40 : decode b_Sh_growRow 40 = .ok (.iconst 1, 1) := by decide +kernel
theorem d_Sh_growRow_41 : decode b_Sh_growRow 41 = .ok (.iadd, 1) := by decide +kernel
theorem d_Sh_growRow_42 : decode b_Sh_growRow 42 = .ok (.iaload, 1) := by decide +kernel
theorem d_Sh_growRow_43 : decode b_Sh_growRow 43 = .ok (.ior, 1) := by decide +kernel
theorem d_Sh_growRow_44 : decode b_Sh_growRow 44 = .ok (.istore 4, 2) := by decide +kernel
theorem d_Sh_growRow_46 : decode b_Sh_growRow 46 = .ok (.aload_n 0, 1) := by decide +kernel
theorem d_Sh_growRow_47 : decode b_Sh_growRow 47 = .ok (.getfield 9, 3) := by decide +kernel
theorem d_Sh_growRow_50 : decode b_Sh_growRow 50 = .ok (.iload_n 1, 1) := by decide +kernel
theorem d_Sh_growRow_51 : decode b_Sh_growRow 51 = .ok (.iload_n 3, 1) := by decide +kernel
theorem d_Sh_growRow_52 : decode b_Sh_growRow 52 = .ok (.iload 4, 2) := by decide +kernel
theorem d_Sh_growRow_54 : decode b_Sh_growRow 54 = .ok (.aload_n 2, 1) := by decide +kernel
theorem d_Sh_growRow_55 : decode b_Sh_growRow 55 = .ok (.getfield 9, 3) := by decide +kernel
theorem d_Sh_growRow_58 : decode b_Sh_growRow 58 = .ok (.iload_n 1, 1) := by decide +kernel
theorem d_Sh_growRow_59 : decode b_Sh_growRow 59 = .ok (.iaload, 1) := by decide +kernel
theorem d_Sh_growRow_60 : decode b_Sh_growRow 60 = .ok (.iand, 1) := by decide +kernel
theorem d_Sh_growRow_61 : decode b_Sh_growRow 61 = .ok (.aload_n 2, 1) := by decide +kernel
theorem d_Sh_growRow_62 : decode b_Sh_growRow 62 = .ok (.getfield 9, 3) := by decide +kernel
theorem d_Sh_growRow_65 : decode b_Sh_growRow 65 = .ok (.iload_n 1, 1) := by decide +kernel
theorem d_Sh_growRow_66 : decode b_Sh_growRow 66 = .ok (.iaload, 1) := by decide +kernel
theorem d_Sh_growRow_67 : decode b_Sh_growRow 67 = .ok (.invokestatic 55, 3) := by decide +kernel
theorem d_Sh_growRow_70 : decode b_Sh_growRow 70 = .ok (.ior, 1) := by decide +kernel
theorem d_Sh_growRow_71 : decode b_Sh_growRow 71 = .ok (.iastore, 1) := by decide +kernel
theorem d_Sh_growRow_72 : decode b_Sh_growRow 72 = .ok (.aload_n 0, 1) := by decide +kernel
theorem d_Sh_growRow_73 : decode b_Sh_growRow 73 = .ok (.getfield 9, 3) := by decide +kernel
theorem d_Sh_growRow_76 : decode b_Sh_growRow 76 = .ok (.iload_n 1, 1) := by decide +kernel
theorem d_Sh_growRow_77 : decode b_Sh_growRow 77 = .ok (.iaload, 1) := by decide +kernel
theorem d_Sh_growRow_78 : decode b_Sh_growRow 78 = .ok (.iload_n 3, 1) := by decide +kernel
theorem d_Sh_growRow_79 : decode b_Sh_growRow 79 = .ok (.if_icmp .eq 7, 3) := by decide +kernel
theorem d_Sh_growRow_82 : decode b_Sh_growRow 82 = .ok (.iconst 1, 1) := by decide +kernel
theorem d_Sh_growRow_83 : decode b_Sh_growRow 83 = .ok (.goto 4, 3) := by decide +kernel
theorem d_Sh_growRow_86 : decode b_Sh_growRow 86 = .ok (.iconst 0, 1) := by decide +kernel
theorem d_Sh_growRow_87 : decode b_Sh_growRow 87 = .ok (.ireturn, 1) := by decide +kernel
theorem d_Sh_runsFrom_0 : decode b_Sh_runsFrom 0 = .ok (.iload_n 0, 1) := by decide +kernel
theorem d_Sh_runsFrom_1 : decode b_Sh_runsFrom 1 = .ok (.istore_n 2, 1) := by decide +kernel
theorem d_Sh_runsFrom_2 : decode b_Sh_runsFrom 2 = .ok (.iload_n 0, 1) := by decide +kernel
theorem d_Sh_runsFrom_3 : decode b_Sh_runsFrom 3 = .ok (.istore_n 3, 1) := by decide +kernel
theorem d_Sh_runsFrom_4 : decode b_Sh_runsFrom 4 = .ok (.iload_n 1, 1) := by decide +kernel
theorem d_Sh_runsFrom_5 : decode b_Sh_runsFrom 5 = .ok (.istore 4, 2) := by decide +kernel
theorem d_Sh_runsFrom_7 : decode b_Sh_runsFrom 7 = .ok (.iload_n 1, 1) := by decide +kernel
theorem d_Sh_runsFrom_8 : decode b_Sh_runsFrom 8 = .ok (.istore 5, 2) := by decide +kernel
theorem d_Sh_runsFrom_10 : decode b_Sh_runsFrom 10 = .ok (.iconst 1, 1) := by decide +kernel
theorem d_Sh_runsFrom_11 : decode b_Sh_runsFrom 11 = .ok (.istore 6, 2) := by decide +kernel
theorem d_Sh_runsFrom_13 : decode b_Sh_runsFrom 13 = .ok (.iload 6, 2) := by decide +kernel
theorem d_Sh_runsFrom_15 : decode b_Sh_runsFrom 15 = .ok (.bipush 32, 2) := by decide +kernel
theorem d_Sh_runsFrom_17 : decode b_Sh_runsFrom 17 = .ok (.if_icmp .ge 52, 3) := by decide +kernel
theorem d_Sh_runsFrom_20 : decode b_Sh_runsFrom 20 = .ok (.iload_n 2, 1) := by decide +kernel
theorem d_Sh_runsFrom_21 : decode b_Sh_runsFrom 21 = .ok (.iload 4, 2) := by decide +kernel
theorem d_Sh_runsFrom_23 : decode b_Sh_runsFrom 23 = .ok (.iload_n 2, 1) := by decide +kernel
theorem d_Sh_runsFrom_24 : decode b_Sh_runsFrom 24 = .ok (.iload 6, 2) := by decide +kernel
theorem d_Sh_runsFrom_26 : decode b_Sh_runsFrom 26 = .ok (.ishl, 1) := by decide +kernel
theorem d_Sh_runsFrom_27 : decode b_Sh_runsFrom 27 = .ok (.iand, 1) := by decide +kernel
theorem d_Sh_runsFrom_28 : decode b_Sh_runsFrom 28 = .ok (.ior, 1) := by decide +kernel
theorem d_Sh_runsFrom_29 : decode b_Sh_runsFrom 29 = .ok (.istore_n 2, 1) := by decide +kernel
theorem d_Sh_runsFrom_30 : decode b_Sh_runsFrom 30 = .ok (.iload_n 3, 1) := by decide +kernel
theorem d_Sh_runsFrom_31 : decode b_Sh_runsFrom 31 = .ok (.iload 5, 2) := by decide +kernel
theorem d_Sh_runsFrom_33 : decode b_Sh_runsFrom 33 = .ok (.iload_n 3, 1) := by decide +kernel
theorem d_Sh_runsFrom_34 : decode b_Sh_runsFrom 34 = .ok (.iload 6, 2) := by decide +kernel
theorem d_Sh_runsFrom_36 : decode b_Sh_runsFrom 36 = .ok (.iushr, 1) := by decide +kernel
theorem d_Sh_runsFrom_37 : decode b_Sh_runsFrom 37 = .ok (.iand, 1) := by decide +kernel
theorem d_Sh_runsFrom_38 : decode b_Sh_runsFrom 38 = .ok (.ior, 1) := by decide +kernel
theorem d_Sh_runsFrom_39 : decode b_Sh_runsFrom 39 = .ok (.istore_n 3, 1) := by decide +kernel
theorem d_Sh_runsFrom_40 : decode b_Sh_runsFrom 40 = .ok (.iload 4, 2) := by decide +kernel
theorem d_Sh_runsFrom_42 : decode b_Sh_runsFrom 42 = .ok (.iload 4, 2) := by decide +kernel
theorem d_Sh_runsFrom_44 : decode b_Sh_runsFrom 44 = .ok (.iload 6, 2) := by decide +kernel
theorem d_Sh_runsFrom_46 : decode b_Sh_runsFrom 46 = .ok (.ishl, 1) := by decide +kernel
theorem d_Sh_runsFrom_47 : decode b_Sh_runsFrom 47 = .ok (.iand, 1) := by decide +kernel
theorem d_Sh_runsFrom_48 : decode b_Sh_runsFrom 48 = .ok (.istore 4, 2) := by decide +kernel
theorem d_Sh_runsFrom_50 : decode b_Sh_runsFrom 50 = .ok (.iload 5, 2) := by decide +kernel
theorem d_Sh_runsFrom_52 : decode b_Sh_runsFrom 52 = .ok (.iload 5, 2) := by decide +kernel
theorem d_Sh_runsFrom_54 : decode b_Sh_runsFrom 54 = .ok (.iload 6, 2) := by decide +kernel
theorem d_Sh_runsFrom_56 : decode b_Sh_runsFrom 56 = .ok (.iushr, 1) := by decide +kernel
theorem d_Sh_runsFrom_57 : decode b_Sh_runsFrom 57 = .ok (.iand, 1) := by decide +kernel
theorem d_Sh_runsFrom_58 : decode b_Sh_runsFrom 58 = .ok (.istore 5, 2) := by decide +kernel
theorem d_Sh_runsFrom_60 : decode b_Sh_runsFrom 60 = .ok (.iload 6, 2) := by decide +kernel
theorem d_Sh_runsFrom_62 : decode b_Sh_runsFrom 62 = .ok (.iconst 2, 1) := by decide +kernel
theorem d_Sh_runsFrom_63 : decode b_Sh_runsFrom 63 = .ok (.imul, 1) := by decide +kernel
theorem d_Sh_runsFrom_64 : decode b_Sh_runsFrom 64 = .ok (.istore 6, 2) := by decide +kernel
theorem d_Sh_runsFrom_66 : decode b_Sh_runsFrom 66 = .ok (.goto (-53), 3) := by decide +kernel
theorem d_Sh_runsFrom_69 : decode b_Sh_runsFrom 69 = .ok (.iload_n 2, 1) := by decide +kernel
theorem d_Sh_runsFrom_70 : decode b_Sh_runsFrom 70 = .ok (.iload_n 3, 1) := by decide +kernel
theorem d_Sh_runsFrom_71 : decode b_Sh_runsFrom 71 = .ok (.ior, 1) := by decide +kernel
theorem d_Sh_runsFrom_72 : decode b_Sh_runsFrom 72 = .ok (.ireturn, 1) := by decide +kernel
theorem d_Sh_bits_0 : decode b_Sh_bits 0 = .ok (.iconst 0, 1) := by decide +kernel
theorem d_Sh_bits_1 : decode b_Sh_bits 1 = .ok (.iload_n 0, 1) := by decide +kernel
theorem d_Sh_bits_2 : decode b_Sh_bits 2 = .ok (.invokestatic 37, 3) := by decide +kernel
theorem d_Sh_bits_5 : decode b_Sh_bits 5 = .ok (.istore_n 2, 1) := by decide +kernel
theorem d_Sh_bits_6 : decode b_Sh_bits 6 = .ok (.bipush 31, 2) := by decide +kernel
theorem d_Sh_bits_8 : decode b_Sh_bits 8 = .ok (.iload_n 1, 1) := by decide +kernel
theorem d_Sh_bits_9 : decode b_Sh_bits 9 = .ok (.invokestatic 58, 3) := by decide +kernel
theorem d_Sh_bits_12 : decode b_Sh_bits 12 = .ok (.istore_n 3, 1) := by decide +kernel
theorem d_Sh_bits_13 : decode b_Sh_bits 13 = .ok (.iload_n 2, 1) := by decide +kernel
theorem d_Sh_bits_14 : decode b_Sh_bits 14 = .ok (.iload_n 3, 1) := by decide +kernel
theorem d_Sh_bits_15 : decode b_Sh_bits 15 = .ok (.if_icmp .le 7, 3) := by decide +kernel
theorem d_Sh_bits_18 : decode b_Sh_bits 18 = .ok (.iconst 0, 1) := by decide +kernel
theorem d_Sh_bits_19 : decode b_Sh_bits 19 = .ok (.goto 13, 3) := by decide +kernel
theorem d_Sh_bits_22 : decode b_Sh_bits 22 = .ok (.iconst (-1), 1) := by decide +kernel
theorem d_Sh_bits_23 : decode b_Sh_bits 23 = .ok (.bipush 31, 2) := by decide +kernel
theorem d_Sh_bits_25 : decode b_Sh_bits 25 = .ok (.iload_n 3, 1) := by decide +kernel
theorem d_Sh_bits_26 : decode b_Sh_bits 26 = .ok (.iload_n 2, 1) := by decide +kernel
theorem d_Sh_bits_27 : decode b_Sh_bits 27 = .ok (.isub, 1) := by decide +kernel
theorem d_Sh_bits_28 : decode b_Sh_bits 28 = .ok (.isub, 1) := by decide +kernel
theorem d_Sh_bits_29 : decode b_Sh_bits 29 = .ok (.iushr, 1) := by decide +kernel
theorem d_Sh_bits_30 : decode b_Sh_bits 30 = .ok (.iload_n 2, 1) := by decide +kernel
theorem d_Sh_bits_31 : decode b_Sh_bits 31 = .ok (.ishl, 1) := by decide +kernel
theorem d_Sh_bits_32 : decode b_Sh_bits 32 = .ok (.ireturn, 1) := by decide +kernel
theorem d_Co_init_0 : decode b_Co_init 0 = .ok (.aload_n 0, 1) := by decide +kernel
theorem d_Co_init_1 : decode b_Co_init 1 = .ok (.invokespecial 3, 3) := by decide +kernel
theorem d_Co_init_4 : decode b_Co_init 4 = .ok (.aload_n 0, 1) := by decide +kernel
theorem d_Co_init_5 : decode b_Co_init 5 = .ok (.sipush 150, 3) := by decide +kernel
theorem d_Co_init_8 : decode b_Co_init 8 = .ok (.anewarray 9, 3) := by decide +kernel
theorem d_Co_init_11 : decode b_Co_init 11 = .ok (.putfield 11, 3) := by decide +kernel
theorem d_Co_init_14 : decode b_Co_init 14 = .ok (.aload_n 0, 1) := by decide +kernel
theorem d_Co_init_15 : decode b_Co_init 15 = .ok (.new 17, 3) := by decide +kernel
theorem d_Co_init_18 : decode b_Co_init 18 = .ok (.dup, 1) := by decide +kernel
theorem d_Co_init_19 : decode b_Co_init 19 = .ok (.invokespecial 19, 3) := by decide +kernel
theorem d_Co_init_22 : decode b_Co_init 22 = .ok (.putfield 20, 3) := by decide +kernel
theorem d_Co_init_25 : decode b_Co_init 25 = .ok (.aload_n 0, 1) := by decide +kernel
theorem d_Co_init_26 : decode b_Co_init 26 = .ok (.iload_n 1, 1) := by decide +kernel
theorem d_Co_init_27 : decode b_Co_init 27 = .ok (.putfield 24, 3) := by decide +kernel
theorem d_Co_init_30 : decode b_Co_init 30 = .ok (.aload_n 0, 1) := by decide +kernel
theorem d_Co_init_31 : decode b_Co_init 31 = .ok (.iload_n 2, 1) := by decide +kernel
theorem d_Co_init_32 : decode b_Co_init 32 = .ok (.putfield 28, 3) := by decide +kernel
theorem d_Co_init_35 : decode b_Co_init 35 = .ok (.aload_n 0, 1) := by decide +kernel
theorem d_Co_init_36 : decode b_Co_init 36 = .ok (.iload_n 1, 1) := by decide +kernel
theorem d_Co_init_37 : decode b_Co_init 37 = .ok (.invokestatic 31, 3) := by decide +kernel
theorem d_Co_init_40 : decode b_Co_init 40 = .ok (.putfield 35, 3) := by decide +kernel
theorem d_Co_init_43 : decode b_Co_init 43 = .ok (.aload_n 0, 1) := by decide +kernel
theorem d_Co_init_44 : decode b_Co_init 44 = .ok (.iload_n 1, 1) := by decide +kernel
theorem d_Co_init_45 : decode b_Co_init 45 = .ok (.invokestatic 31, 3) := by decide +kernel
theorem d_Co_init_48 : decode b_Co_init 48 = .ok (.putfield 39, 3) := by decide +kernel
theorem d_Co_init_51 : decode b_Co_init 51 = .ok (.return_, 1) := by decide +kernel
theorem d_Co_newSheets_0 : decode b_Co_newSheets 0 = .ok (.iload_n 0, 1) := by decide +kernel
theorem d_Co_newSheets_1 : decode b_Co_newSheets 1 = .ok (.anewarray 17, 3) := by decide +kernel
theorem d_Co_newSheets_4 : decode b_Co_newSheets 4 = .ok (.astore_n 1, 1) := by decide +kernel
theorem d_Co_newSheets_5 : decode b_Co_newSheets 5 = .ok (.iconst 0, 1) := by decide +kernel
theorem d_Co_newSheets_6 : decode b_Co_newSheets 6 = .ok (.istore_n 2, 1) := by decide +kernel
theorem d_Co_newSheets_7 : decode b_Co_newSheets 7 = .ok (.iload_n 2, 1) := by decide +kernel
theorem d_Co_newSheets_8 : decode b_Co_newSheets 8 = .ok (.iload_n 0, 1) := by decide +kernel
theorem d_Co_newSheets_9 : decode b_Co_newSheets 9 = .ok (.if_icmp .ge 19, 3) := by decide +kernel
theorem d_Co_newSheets_12 : decode b_Co_newSheets 12 = .ok (.aload_n 1, 1) := by decide +kernel
theorem d_Co_newSheets_13 : decode b_Co_newSheets 13 = .ok (.iload_n 2, 1) := by decide +kernel
theorem d_Co_newSheets_14 : decode b_Co_newSheets 14 = .ok (.new 17, 3) := by decide +kernel
theorem d_Co_newSheets_17 : decode b_Co_newSheets 17 = .ok (.dup, 1) := by decide +kernel
theorem d_Co_newSheets_18 : decode b_Co_newSheets 18 = .ok (.invokespecial 19, 3) := by decide +kernel
theorem d_Co_newSheets_21 : decode b_Co_newSheets 21 = .ok (.aastore, 1) := by decide +kernel
theorem d_Co_newSheets_22 : decode b_Co_newSheets 22 = .ok (.iinc 2 1, 3) := by decide +kernel
theorem d_Co_newSheets_25 : decode b_Co_newSheets 25 = .ok (.goto (-18), 3) := by decide +kernel
theorem d_Co_newSheets_28 : decode b_Co_newSheets 28 = .ok (.aload_n 1, 1) := by decide +kernel
theorem d_Co_newSheets_29 : decode b_Co_newSheets 29 = .ok (.areturn, 1) := by decide +kernel
theorem d_Co_thereAt_0 : decode b_Co_thereAt 0 = .ok (.aload_n 0, 1) := by decide +kernel
theorem d_Co_thereAt_1 : decode b_Co_thereAt 1 = .ok (.getfield 11, 3) := by decide +kernel
theorem d_Co_thereAt_4 : decode b_Co_thereAt 4 = .ok (.iload_n 1, 1) := by decide +kernel
theorem d_Co_thereAt_5 : decode b_Co_thereAt 5 = .ok (.aaload, 1) := by decide +kernel
theorem d_Co_thereAt_6 : decode b_Co_thereAt 6 = .ok (.astore_n 2, 1) := by decide +kernel
theorem d_Co_thereAt_7 : decode b_Co_thereAt 7 = .ok (.aload_n 2, 1) := by decide +kernel
theorem d_Co_thereAt_8 : decode b_Co_thereAt 8 = .ok (.ifnull 14, 3) := by decide +kernel
theorem d_Co_thereAt_11 : decode b_Co_thereAt 11 = .ok (.aload_n 2, 1) := by decide +kernel
theorem d_Co_thereAt_12 : decode b_Co_thereAt 12 = .ok (.getfield 42, 3) := by decide +kernel
theorem d_Co_thereAt_15 : decode b_Co_thereAt 15 = .ok (.ifCond .eq 7, 3) := by decide +kernel
theorem d_Co_thereAt_18 : decode b_Co_thereAt 18 = .ok (.aload_n 2, 1) := by decide +kernel
theorem d_Co_thereAt_19 : decode b_Co_thereAt 19 = .ok (.goto 4, 3) := by decide +kernel
theorem d_Co_thereAt_22 : decode b_Co_thereAt 22 = .ok (.aconst_null, 1) := by decide +kernel
theorem d_Co_thereAt_23 : decode b_Co_thereAt 23 = .ok (.areturn, 1) := by decide +kernel
theorem d_Co_handleAt_0 : decode b_Co_handleAt 0 = .ok (.aload_n 0, 1) := by decide +kernel
theorem d_Co_handleAt_1 : decode b_Co_handleAt 1 = .ok (.iload_n 1, 1) := by decide +kernel
theorem d_Co_handleAt_2 : decode b_Co_handleAt 2 = .ok (.invokevirtual 46, 3) := by decide +kernel
theorem d_Co_handleAt_5 : decode b_Co_handleAt 5 = .ok (.astore_n 2, 1) := by decide +kernel
theorem d_Co_handleAt_6 : decode b_Co_handleAt 6 = .ok (.aload_n 2, 1) := by decide +kernel
theorem d_Co_handleAt_7 : decode b_Co_handleAt 7 = .ok (.ifnonnull 7, 3) := by decide +kernel
theorem d_Co_handleAt_10 : decode b_Co_handleAt 10 = .ok (.iconst (-1), 1) := by decide +kernel
theorem d_Co_handleAt_11 : decode b_Co_handleAt 11 = .ok (.goto 7, 3) := by decide +kernel
theorem d_Co_handleAt_14 : decode b_Co_handleAt 14 = .ok (.aload_n 2, 1) := by decide +kernel
theorem d_Co_handleAt_15 : decode b_Co_handleAt 15 = .ok (.invokevirtual 50, 3) := by decide +kernel
theorem d_Co_handleAt_18 : decode b_Co_handleAt 18 = .ok (.ireturn, 1) := by decide +kernel
theorem d_Co_clashesMoved_0 : decode b_Co_clashesMoved 0 = .ok (.bipush 20, 2) := by decide +kernel
theorem d_Co_clashesMoved_2 : decode b_Co_clashesMoved 2 = .ok (.istore 5, 2) := by decide +kernel
theorem d_Co_clashesMoved_4 : decode b_Co_clashesMoved 4 = .ok (.iload 5, 2) := by decide +kernel
theorem d_Co_clashesMoved_6 : decode b_Co_clashesMoved 6 = .ok (.sipush 140, 3) := by decide +kernel
theorem d_Co_clashesMoved_9 : decode b_Co_clashesMoved 9 = .ok (.if_icmp .ge 49, 3) := by decide +kernel
theorem d_Co_clashesMoved_12 : decode b_Co_clashesMoved 12 = .ok (.aload_n 0, 1) := by decide +kernel
theorem d_Co_clashesMoved_13 : decode b_Co_clashesMoved 13 = .ok (.iload 5, 2) := by decide +kernel
theorem d_Co_clashesMoved_15 : decode b_Co_clashesMoved 15 = .ok (.invokevirtual 46, 3) := by decide +kernel
theorem d_Co_clashesMoved_18 : decode b_Co_clashesMoved 18 = .ok (.astore 6, 2) := by decide +kernel
theorem d_Co_clashesMoved_20 : decode b_Co_clashesMoved 20 = .ok (.aload 6, 2) := by decide +kernel
theorem d_Co_clashesMoved_22 : decode b_Co_clashesMoved 22 = .ok (.ifnull 30, 3) := by decide +kernel
theorem d_Co_clashesMoved_25 : decode b_Co_clashesMoved 25 = .ok (.aload 6, 2) := by decide +kernel
theorem d_Co_clashesMoved_27 : decode b_Co_clashesMoved 27 = .ok (.aload_n 2, 1) := by decide +kernel
theorem d_Co_clashesMoved_28 : decode b_Co_clashesMoved 28 = .ok (.invokevirtual 54, 3) := by decide +kernel
theorem d_Co_clashesMoved_31 : decode b_Co_clashesMoved 31 = .ok (.ifCond .ne 21, 3) := by decide +kernel
theorem d_Co_clashesMoved_34 : decode b_Co_clashesMoved 34 = .ok (.aload_n 1, 1) := by decide +kernel
theorem d_Co_clashesMoved_35 : decode b_Co_clashesMoved 35 = .ok (.aload 6, 2) := by decide +kernel
theorem d_Co_clashesMoved_37 : decode b_Co_clashesMoved 37 = .ok (.aload_n 0, 1) := by decide +kernel
theorem d_Co_clashesMoved_38 : decode b_Co_clashesMoved 38 = .ok (.getfield 28, 3) := by decide +kernel
theorem d_Co_clashesMoved_41 : decode b_Co_clashesMoved 41 = .ok (.iload_n 3, 1) := by decide +kernel
theorem d_Co_clashesMoved_42 : decode b_Co_clashesMoved 42 = .ok (.iload 4, 2) := by decide +kernel
theorem d_Co_clashesMoved_44 : decode b_Co_clashesMoved 44 = .ok (.invokevirtual 58, 3) := by decide +kernel
theorem d_Co_clashesMoved_47 : decode b_Co_clashesMoved 47 = .ok (.ifCond .eq 5, 3) := by decide +kernel
theorem d_Co_clashesMoved_50 : decode b_Co_clashesMoved 50 = .ok (.iconst 1, 1) := by decide +kernel
theorem d_Co_clashesMoved_51 : decode b_Co_clashesMoved 51 = .ok (.ireturn, 1) := by decide +kernel
theorem d_Co_clashesMoved_52 : decode b_Co_clashesMoved 52 = .ok (.iinc 5 1, 3) := by decide +kernel
theorem d_Co_clashesMoved_55 : decode b_Co_clashesMoved 55 = .ok (.goto (-51), 3) := by decide +kernel
theorem d_Co_clashesMoved_58 : decode b_Co_clashesMoved 58 = .ok (.iconst 0, 1) := by decide +kernel
theorem d_Co_clashesMoved_59 : decode b_Co_clashesMoved 59 = .ok (.ireturn, 1) := by decide +kernel
theorem d_Co_anyPadClashesMoved_0 : decode b_Co_anyPadClashesMoved 0 = .ok (.bipush 20, 2) := by decide +kernel
theorem d_Co_anyPadClashesMoved_2 : decode b_Co_anyPadClashesMoved 2 = .ok (.istore 4, 2) := by decide +kernel
theorem d_Co_anyPadClashesMoved_4 : decode b_Co_anyPadClashesMoved 4 = .ok (.iload 4, 2) := by decide +kernel
theorem d_Co_anyPadClashesMoved_6 : decode b_Co_anyPadClashesMoved 6 = .ok (.sipush 140, 3) := by decide +kernel
theorem d_Co_anyPadClashesMoved_9 : decode b_Co_anyPadClashesMoved 9 = .ok (.if_icmp .ge 45, 3) := by decide +kernel
theorem d_Co_anyPadClashesMoved_12 : decode b_Co_anyPadClashesMoved 12 = .ok (.aload_n 0, 1) := by decide +kernel
theorem d_Co_anyPadClashesMoved_13 : decode b_Co_anyPadClashesMoved 13 = .ok (.iload 4, 2) := by decide +kernel
theorem d_Co_anyPadClashesMoved_15 : decode b_Co_anyPadClashesMoved 15 = .ok (.invokevirtual 46, 3) := by decide +kernel
theorem d_Co_anyPadClashesMoved_18 : decode b_Co_anyPadClashesMoved 18 = .ok (.astore 5, 2) := by decide +kernel
theorem d_Co_anyPadClashesMoved_20 : decode b_Co_anyPadClashesMoved 20 = .ok (.aload 5, 2) := by decide +kernel
theorem d_Co_anyPadClashesMoved_22 : decode b_Co_anyPadClashesMoved 22 = .ok (.ifnull 26, 3) := by decide +kernel
theorem d_Co_anyPadClashesMoved_25 : decode b_Co_anyPadClashesMoved 25 = .ok (.aload 5, 2) := by decide +kernel
theorem d_Co_anyPadClashesMoved_27 : decode b_Co_anyPadClashesMoved 27 = .ok (.aload_n 1, 1) := by decide +kernel
theorem d_Co_anyPadClashesMoved_28 : decode b_Co_anyPadClashesMoved 28 = .ok (.invokevirtual 54, 3) := by decide +kernel
theorem d_Co_anyPadClashesMoved_31 : decode b_Co_anyPadClashesMoved 31 = .ok (.ifCond .eq 17, 3) := by decide +kernel
theorem d_Co_anyPadClashesMoved_34 : decode b_Co_anyPadClashesMoved 34 = .ok (.aload_n 0, 1) := by decide +kernel
theorem d_Co_anyPadClashesMoved_35 : decode b_Co_anyPadClashesMoved 35 = .ok (.aload 5, 2) := by decide +kernel
theorem d_Co_anyPadClashesMoved_37 : decode b_Co_anyPadClashesMoved 37 = .ok (.aload_n 1, 1) := by decide +kernel
theorem d_Co_anyPadClashesMoved_38 : decode b_Co_anyPadClashesMoved 38 = .ok (.iload_n 2, 1) := by decide +kernel
theorem d_Co_anyPadClashesMoved_39 : decode b_Co_anyPadClashesMoved 39 = .ok (.iload_n 3, 1) := by decide +kernel
theorem d_Co_anyPadClashesMoved_40 : decode b_Co_anyPadClashesMoved 40 = .ok (.invokevirtual 62, 3) := by decide +kernel
theorem d_Co_anyPadClashesMoved_43 : decode b_Co_anyPadClashesMoved 43 = .ok (.ifCond .eq 5, 3) := by decide +kernel
theorem d_Co_anyPadClashesMoved_46 : decode b_Co_anyPadClashesMoved 46 = .ok (.iconst 1, 1) := by decide +kernel
theorem d_Co_anyPadClashesMoved_47 : decode b_Co_anyPadClashesMoved 47 = .ok (.ireturn, 1) := by decide +kernel
theorem d_Co_anyPadClashesMoved_48 : decode b_Co_anyPadClashesMoved 48 = .ok (.iinc 4 1, 3) := by decide +kernel
theorem d_Co_anyPadClashesMoved_51 : decode b_Co_anyPadClashesMoved 51 = .ok (.goto (-47), 3) := by decide +kernel
theorem d_Co_anyPadClashesMoved_54 : decode b_Co_anyPadClashesMoved 54 = .ok (.iconst 0, 1) := by decide +kernel
theorem d_Co_anyPadClashesMoved_55 : decode b_Co_anyPadClashesMoved 55 = .ok (.ireturn, 1) := by decide +kernel
theorem d_Co_isPair_0 : decode b_Co_isPair 0 = .ok (.aload_n 0, 1) := by decide +kernel
theorem d_Co_isPair_1 : decode b_Co_isPair 1 = .ok (.iload_n 2, 1) := by decide +kernel
theorem d_Co_isPair_2 : decode b_Co_isPair 2 = .ok (.invokevirtual 46, 3) := by decide +kernel
theorem d_Co_isPair_5 : decode b_Co_isPair 5 = .ok (.astore_n 3, 1) := by decide +kernel
theorem d_Co_isPair_6 : decode b_Co_isPair 6 = .ok (.aload_n 3, 1) := by decide +kernel
theorem d_Co_isPair_7 : decode b_Co_isPair 7 = .ok (.ifnull 21, 3) := by decide +kernel
theorem d_Co_isPair_10 : decode b_Co_isPair 10 = .ok (.aload_n 1, 1) := by decide +kernel
theorem d_Co_isPair_11 : decode b_Co_isPair 11 = .ok (.aload_n 3, 1) := by decide +kernel
theorem d_Co_isPair_12 : decode b_Co_isPair 12 = .ok (.aload_n 0, 1) := by decide +kernel
theorem d_Co_isPair_13 : decode b_Co_isPair 13 = .ok (.getfield 28, 3) := by decide +kernel
theorem d_Co_isPair_16 : decode b_Co_isPair 16 = .ok (.iconst 0, 1) := by decide +kernel
theorem d_Co_isPair_17 : decode b_Co_isPair 17 = .ok (.iconst 0, 1) := by decide +kernel
theorem d_Co_isPair_18 : decode b_Co_isPair 18 = .ok (.invokevirtual 58, 3) := by decide +kernel
theorem d_Co_isPair_21 : decode b_Co_isPair 21 = .ok (.ifCond .eq 7, 3) := by decide +kernel
theorem d_Co_isPair_24 : decode b_Co_isPair 24 = .ok (.iconst 1, 1) := by decide +kernel
theorem d_Co_isPair_25 : decode b_Co_isPair 25 = .ok (.goto 4, 3) := by decide +kernel
theorem d_Co_isPair_28 : decode b_Co_isPair 28 = .ok (.iconst 0, 1) := by decide +kernel
theorem d_Co_isPair_29 : decode b_Co_isPair 29 = .ok (.ireturn, 1) := by decide +kernel
theorem d_Co_countPartners_0 : decode b_Co_countPartners 0 = .ok (.aload_n 0, 1) := by decide +kernel
theorem d_Co_countPartners_1 : decode b_Co_countPartners 1 = .ok (.iload_n 1, 1) := by decide +kernel
theorem d_Co_countPartners_2 : decode b_Co_countPartners 2 = .ok (.invokevirtual 46, 3) := by decide +kernel
theorem d_Co_countPartners_5 : decode b_Co_countPartners 5 = .ok (.astore_n 2, 1) := by decide +kernel
theorem d_Co_countPartners_6 : decode b_Co_countPartners 6 = .ok (.iconst 0, 1) := by decide +kernel
theorem d_Co_countPartners_7 : decode b_Co_countPartners 7 = .ok (.istore_n 3, 1) := by decide +kernel
theorem d_Co_countPartners_8 : decode b_Co_countPartners 8 = .ok (.iload_n 1, 1) := by decide +kernel
theorem d_Co_countPartners_9 : decode b_Co_countPartners 9 = .ok (.iconst 1, 1) := by decide +kernel
theorem d_Co_countPartners_10 : decode b_Co_countPartners 10 = .ok (.iadd, 1) := by decide +kernel
theorem d_Co_countPartners_11 : decode b_Co_countPartners 11 = .ok (.istore 4, 2) := by decide +kernel
theorem d_Co_countPartners_13 : decode b_Co_countPartners 13 = .ok (.aload_n 2, 1) := by decide +kernel
theorem d_Co_countPartners_14 : decode b_Co_countPartners 14 = .ok (.ifnull 30, 3) := by decide +kernel
theorem d_Co_countPartners_17 : decode b_Co_countPartners 17 = .ok (.iload 4, 2) := by decide +kernel
theorem d_Co_countPartners_19 : decode b_Co_countPartners 19 = .ok (.sipush 140, 3) := by decide +kernel
theorem d_Co_countPartners_22 : decode b_Co_countPartners 22 = .ok (.if_icmp .ge 22, 3) := by decide +kernel
theorem d_Co_countPartners_25 : decode b_Co_countPartners 25 = .ok (.aload_n 0, 1) := by decide +kernel
theorem d_Co_countPartners_26 : decode b_Co_countPartners 26 = .ok (.aload_n 2, 1) := by decide +kernel
theorem d_Co_countPartners_27 : decode b_Co_countPartners 27 = .ok (.iload 4, 2) := by decide +kernel
theorem d_Co_countPartners_29 : decode b_Co_countPartners 29 = .ok (.invokevirtual 65, 3) := by decide +kernel
theorem d_Co_countPartners_32 : decode b_Co_countPartners 32 = .ok (.ifCond .eq 6, 3) := by decide +kernel
theorem d_Co_countPartners_35 : decode b_Co_countPartners 35 = .ok (.iinc 3 1, 3) := by decide +kernel
theorem d_Co_countPartners_38 : decode b_Co_countPartners 38 = .ok (.iinc 4 1, 3) := by decide +kernel
theorem d_Co_countPartners_41 : decode b_Co_countPartners 41 = .ok (.goto (-28), 3) := by decide +kernel
theorem d_Co_countPartners_44 : decode b_Co_countPartners 44 = .ok (.iload_n 3, 1) := by decide +kernel
theorem d_Co_countPartners_45 : decode b_Co_countPartners 45 = .ok (.ireturn, 1) := by decide +kernel
theorem d_Co_partnerOf_0 : decode b_Co_partnerOf 0 = .ok (.aload_n 0, 1) := by decide +kernel
theorem d_Co_partnerOf_1 : decode b_Co_partnerOf 1 = .ok (.iload_n 1, 1) := by decide +kernel
theorem d_Co_partnerOf_2 : decode b_Co_partnerOf 2 = .ok (.invokevirtual 46, 3) := by decide +kernel
theorem d_Co_partnerOf_5 : decode b_Co_partnerOf 5 = .ok (.astore_n 3, 1) := by decide +kernel
theorem d_Co_partnerOf_6 : decode b_Co_partnerOf 6 = .ok (.iload_n 2, 1) := by decide +kernel
theorem d_Co_partnerOf_7 : decode b_Co_partnerOf 7 = .ok (.istore 4, 2) := by decide +kernel
theorem d_Co_partnerOf_9 : decode b_Co_partnerOf 9 = .ok (.iload_n 1, 1) := by decide +kernel
theorem d_Co_partnerOf_10 : decode b_Co_partnerOf 10 = .ok (.iconst 1, 1) := by decide +kernel
theorem d_Co_partnerOf_11 : decode b_Co_partnerOf 11 = .ok (.iadd, 1) := by decide +kernel
theorem d_Co_partnerOf_12 : decode b_Co_partnerOf 12 = .ok (.istore 5, 2) := by decide +kernel
theorem d_Co_partnerOf_14 : decode b_Co_partnerOf 14 = .ok (.aload_n 3, 1) := by decide +kernel
theorem d_Co_partnerOf_15 : decode b_Co_partnerOf 15 = .ok (.ifnull 42, 3) := by decide +kernel
theorem d_Co_partnerOf_18 : decode b_Co_partnerOf 18 = .ok (.iload 5, 2) := by decide +kernel
theorem d_Co_partnerOf_20 : decode b_Co_partnerOf 20 = .ok (.sipush 140, 3) := by decide +kernel
theorem d_Co_partnerOf_23 : decode b_Co_partnerOf 23 = .ok (.if_icmp .ge 34, 3) := by decide +kernel
theorem d_Co_partnerOf_26 : decode b_Co_partnerOf 26 = .ok (.aload_n 0, 1) := by decide +kernel
theorem d_Co_partnerOf_27 : decode b_Co_partnerOf 27 = .ok (.aload_n 3, 1) := by decide +kernel
theorem d_Co_partnerOf_28 : decode b_Co_partnerOf 28 = .ok (.iload 5, 2) := by decide +kernel
theorem d_Co_partnerOf_30 : decode b_Co_partnerOf 30 = .ok (.invokevirtual 65, 3) := by decide +kernel
theorem d_Co_partnerOf_33 : decode b_Co_partnerOf 33 = .ok (.ifCond .eq 18, 3) := by decide +kernel
theorem d_Co_partnerOf_36 : decode b_Co_partnerOf 36 = .ok (.iload 4, 2) := by decide +kernel
theorem d_Co_partnerOf_38 : decode b_Co_partnerOf 38 = .ok (.ifCond .ne 10, 3) := by decide +kernel
theorem d_Co_partnerOf_41 : decode b_Co_partnerOf 41 = .ok (.aload_n 0, 1) := by decide +kernel
theorem d_Co_partnerOf_42 : decode b_Co_partnerOf 42 = .ok (.iload 5, 2) := by decide +kernel
theorem d_Co_partnerOf_44 : decode b_Co_partnerOf 44 = .ok (.invokevirtual 69, 3) := by decide +kernel
theorem d_Co_partnerOf_47 : decode b_Co_partnerOf 47 = .ok (.ireturn, 1) := by decide +kernel
theorem d_Co_partnerOf_48 : decode b_Co_partnerOf 48 = .ok (.iinc 4 (-1), 3) := by decide +kernel
theorem d_Co_partnerOf_51 : decode b_Co_partnerOf 51 = .ok (.iinc 5 1, 3) := by decide +kernel
theorem d_Co_partnerOf_54 : decode b_Co_partnerOf 54 = .ok (.goto (-40), 3) := by decide +kernel
theorem d_Co_partnerOf_57 : decode b_Co_partnerOf 57 = .ok (.iconst (-1), 1) := by decide +kernel
theorem d_Co_partnerOf_58 : decode b_Co_partnerOf 58 = .ok (.ireturn, 1) := by decide +kernel
theorem d_Co_countFilled_0 : decode b_Co_countFilled 0 = .ok (.aload_n 0, 1) := by decide +kernel
theorem d_Co_countFilled_1 : decode b_Co_countFilled 1 = .ok (.getfield 39, 3) := by decide +kernel
theorem d_Co_countFilled_4 : decode b_Co_countFilled 4 = .ok (.iconst 0, 1) := by decide +kernel
theorem d_Co_countFilled_5 : decode b_Co_countFilled 5 = .ok (.aaload, 1) := by decide +kernel
theorem d_Co_countFilled_6 : decode b_Co_countFilled 6 = .ok (.astore_n 2, 1) := by decide +kernel
theorem d_Co_countFilled_7 : decode b_Co_countFilled 7 = .ok (.aload_n 0, 1) := by decide +kernel
theorem d_Co_countFilled_8 : decode b_Co_countFilled 8 = .ok (.aload_n 2, 1) := by decide +kernel
theorem d_Co_countFilled_9 : decode b_Co_countFilled 9 = .ok (.aload_n 1, 1) := by decide +kernel
theorem d_Co_countFilled_10 : decode b_Co_countFilled 10 = .ok (.invokevirtual 73, 3) := by decide +kernel
theorem d_Co_countFilled_13 : decode b_Co_countFilled 13 = .ok (.aload_n 2, 1) := by decide +kernel
theorem d_Co_countFilled_14 : decode b_Co_countFilled 14 = .ok (.invokevirtual 77, 3) := by decide +kernel
theorem d_Co_countFilled_17 : decode b_Co_countFilled 17 = .ok (.ireturn, 1) := by decide +kernel
theorem d_Co_fill_0 : decode b_Co_fill 0 = .ok (.aload_n 0, 1) := by decide +kernel
theorem d_Co_fill_1 : decode b_Co_fill 1 = .ok (.getfield 20, 3) := by decide +kernel
theorem d_Co_fill_4 : decode b_Co_fill 4 = .ok (.invokevirtual 80, 3) := by decide +kernel
theorem d_Co_fill_7 : decode b_Co_fill 7 = .ok (.aload_n 1, 1) := by decide +kernel
theorem d_Co_fill_8 : decode b_Co_fill 8 = .ok (.invokevirtual 83, 3) := by decide +kernel
theorem d_Co_fill_11 : decode b_Co_fill 11 = .ok (.bipush 20, 2) := by decide +kernel
theorem d_Co_fill_13 : decode b_Co_fill 13 = .ok (.istore_n 3, 1) := by decide +kernel
theorem d_Co_fill_14 : decode b_Co_fill 14 = .ok (.iload_n 3, 1) := by decide +kernel
theorem d_Co_fill_15 : decode b_Co_fill 15 = .ok (.sipush 140, 3) := by decide +kernel
theorem d_Co_fill_18 : decode b_Co_fill 18 = .ok (.if_icmp .ge 73, 3) := by decide +kernel
theorem d_Co_fill_21 : decode b_Co_fill 21 = .ok (.aload_n 0, 1) := by decide +kernel
theorem d_Co_fill_22 : decode b_Co_fill 22 = .ok (.iload_n 3, 1) := by decide +kernel
theorem d_Co_fill_23 : decode b_Co_fill 23 = .ok (.invokevirtual 46, 3) := by decide +kernel
theorem d_Co_fill_26 : decode b_Co_fill 26 = .ok (.astore 4, 2) := by decide +kernel
theorem d_Co_fill_28 : decode b_Co_fill 28 = .ok (.aload 4, 2) := by decide +kernel
theorem d_Co_fill_30 : decode b_Co_fill 30 = .ok (.ifnull 55, 3) := by decide +kernel
theorem d_Co_fill_33 : decode b_Co_fill 33 = .ok (.aload 4, 2) := by decide +kernel
theorem d_Co_fill_35 : decode b_Co_fill 35 = .ok (.aload_n 2, 1) := by decide +kernel
theorem d_Co_fill_36 : decode b_Co_fill 36 = .ok (.getfield 86, 3) := by decide +kernel
theorem d_Co_fill_39 : decode b_Co_fill 39 = .ok (.invokevirtual 89, 3) := by decide +kernel
theorem d_Co_fill_42 : decode b_Co_fill 42 = .ok (.ifCond .eq 43, 3) := by decide +kernel
theorem d_Co_fill_45 : decode b_Co_fill 45 = .ok (.aload 4, 2) := by decide +kernel
theorem d_Co_fill_47 : decode b_Co_fill 47 = .ok (.getfield 93, 3) := by decide +kernel
theorem d_Co_fill_50 : decode b_Co_fill 50 = .ok (.aload_n 2, 1) := by decide +kernel
theorem d_Co_fill_51 : decode b_Co_fill 51 = .ok (.getfield 93, 3) := by decide +kernel
theorem d_Co_fill_54 : decode b_Co_fill 54 = .ok (.if_icmp .ne 15, 3) := by decide +kernel
theorem d_Co_fill_57 : decode b_Co_fill 57 = .ok (.aload_n 1, 1) := by decide +kernel
theorem d_Co_fill_58 : decode b_Co_fill 58 = .ok (.aload 4, 2) := by decide +kernel
theorem d_Co_fill_60 : decode b_Co_fill 60 = .ok (.getfield 96, 3) := by decide +kernel
theorem d_Co_fill_63 : decode b_Co_fill 63 = .ok (.invokevirtual 100, 3) := by decide +kernel
theorem d_Co_fill_66 : decode b_Co_fill 66 = .ok (.goto 19, 3) := by decide +kernel
theorem d_Co_fill_69 : decode b_Co_fill 69 = .ok (.aload_n 0, 1) := by decide +kernel
theorem d_Co_fill_70 : decode b_Co_fill 70 = .ok (.getfield 20, 3) := by decide +kernel
theorem d_Co_fill_73 : decode b_Co_fill 73 = .ok (.aload 4, 2) := by decide +kernel
theorem d_Co_fill_75 : decode b_Co_fill 75 = .ok (.getfield 96, 3) := by decide +kernel
theorem d_Co_fill_78 : decode b_Co_fill 78 = .ok (.aload_n 0, 1) := by decide +kernel
theorem d_Co_fill_79 : decode b_Co_fill 79 = .ok (.getfield 28, 3) := by decide +kernel
theorem d_Co_fill_82 : decode b_Co_fill 82 = .ok (.invokevirtual 104, 3) := by decide +kernel
theorem d_Co_fill_85 : decode b_Co_fill 85 = .ok (.iinc 3 1, 3) := by decide +kernel
theorem d_Co_fill_88 : decode b_Co_fill 88 = .ok (.goto (-74), 3) := by decide +kernel
theorem d_Co_fill_91 : decode b_Co_fill 91 = .ok (.aload_n 1, 1) := by decide +kernel
theorem d_Co_fill_92 : decode b_Co_fill 92 = .ok (.aload_n 0, 1) := by decide +kernel
theorem d_Co_fill_93 : decode b_Co_fill 93 = .ok (.getfield 20, 3) := by decide +kernel
theorem d_Co_fill_96 : decode b_Co_fill 96 = .ok (.invokevirtual 108, 3) := by decide +kernel
theorem d_Co_fill_99 : decode b_Co_fill 99 = .ok (.aload_n 1, 1) := by decide +kernel
theorem d_Co_fill_100 : decode b_Co_fill 100 = .ok (.aload_n 0, 1) := by decide +kernel
theorem d_Co_fill_101 : decode b_Co_fill 101 = .ok (.getfield 20, 3) := by decide +kernel
theorem d_Co_fill_104 : decode b_Co_fill 104 = .ok (.invokevirtual 112, 3) := by decide +kernel
theorem d_Co_fill_107 : decode b_Co_fill 107 = .ok (.pop, 1) := by decide +kernel
theorem d_Co_fill_108 : decode b_Co_fill 108 = .ok (.return_, 1) := by decide +kernel
theorem d_Co_countIslands_0 : decode b_Co_countIslands 0 = .ok (.aload_n 0, 1) := by decide +kernel
theorem d_Co_countIslands_1 : decode b_Co_countIslands 1 = .ok (.iload_n 1, 1) := by decide +kernel
theorem d_Co_countIslands_2 : decode b_Co_countIslands 2 = .ok (.invokevirtual 116, 3) := by decide +kernel
theorem d_Co_countIslands_5 : decode b_Co_countIslands 5 = .ok (.iconst 0, 1) := by decide +kernel
theorem d_Co_countIslands_6 : decode b_Co_countIslands 6 = .ok (.istore_n 2, 1) := by decide +kernel
theorem d_Co_countIslands_7 : decode b_Co_countIslands 7 = .ok (.bipush 20, 2) := by decide +kernel
theorem d_Co_countIslands_9 : decode b_Co_countIslands 9 = .ok (.istore_n 3, 1) := by decide +kernel
theorem d_Co_countIslands_10 : decode b_Co_countIslands 10 = .ok (.iload_n 3, 1) := by decide +kernel
theorem d_Co_countIslands_11 : decode b_Co_countIslands 11 = .ok (.sipush 140, 3) := by decide +kernel
theorem d_Co_countIslands_14 : decode b_Co_countIslands 14 = .ok (.if_icmp .ge 40, 3) := by decide +kernel
theorem d_Co_countIslands_17 : decode b_Co_countIslands 17 = .ok (.aload_n 0, 1) := by decide +kernel
theorem d_Co_countIslands_18 : decode b_Co_countIslands 18 = .ok (.iload_n 3, 1) := by decide +kernel
theorem d_Co_countIslands_19 : decode b_Co_countIslands 19 = .ok (.iload_n 1, 1) := by decide +kernel
theorem d_Co_countIslands_20 : decode b_Co_countIslands 20 = .ok (.invokevirtual 120, 3) := by decide +kernel
theorem d_Co_countIslands_23 : decode b_Co_countIslands 23 = .ok (.astore 4, 2) := by decide +kernel
theorem d_Co_countIslands_25 : decode b_Co_countIslands 25 = .ok (.aload 4, 2) := by decide +kernel
theorem d_Co_countIslands_27 : decode b_Co_countIslands 27 = .ok (.ifnull 21, 3) := by decide +kernel
theorem d_Co_countIslands_30 : decode b_Co_countIslands 30 = .ok (.aload_n 0, 1) := by decide +kernel
theorem d_Co_countIslands_31 : decode b_Co_countIslands 31 = .ok (.aload 4, 2) := by decide +kernel
theorem d_Co_countIslands_33 : decode b_Co_countIslands 33 = .ok (.invokevirtual 124, 3) := by decide +kernel
theorem d_Co_countIslands_36 : decode b_Co_countIslands 36 = .ok (.ifCond .ne 12, 3) := by decide +kernel
theorem d_Co_countIslands_39 : decode b_Co_countIslands 39 = .ok (.iinc 2 1, 3) := by decide +kernel
theorem d_Co_countIslands_42 : decode b_Co_countIslands 42 = .ok (.aload_n 0, 1) := by decide +kernel
theorem d_Co_countIslands_43 : decode b_Co_countIslands 43 = .ok (.aload 4, 2) := by decide +kernel
theorem d_Co_countIslands_45 : decode b_Co_countIslands 45 = .ok (.invokevirtual 127, 3) := by decide +kernel
theorem d_Co_countIslands_48 : decode b_Co_countIslands 48 = .ok (.iinc 3 1, 3) := by decide +kernel
theorem d_Co_countIslands_51 : decode b_Co_countIslands 51 = .ok (.goto (-41), 3) := by decide +kernel
theorem d_Co_countIslands_54 : decode b_Co_countIslands 54 = .ok (.iload_n 2, 1) := by decide +kernel
theorem d_Co_countIslands_55 : decode b_Co_countIslands 55 = .ok (.ireturn, 1) := by decide +kernel
theorem d_Co_layOut_0 : decode b_Co_layOut 0 = .ok (.iconst 0, 1) := by decide +kernel
theorem d_Co_layOut_1 : decode b_Co_layOut 1 = .ok (.istore_n 2, 1) := by decide +kernel
theorem d_Co_layOut_2 : decode b_Co_layOut 2 = .ok (.iload_n 2, 1) := by decide +kernel
theorem d_Co_layOut_3 : decode b_Co_layOut 3 = .ok (.aload_n 0, 1) := by decide +kernel
theorem d_Co_layOut_4 : decode b_Co_layOut 4 = .ok (.getfield 24, 3) := by decide +kernel
theorem d_Co_layOut_7 : decode b_Co_layOut 7 = .ok (.if_icmp .ge 27, 3) := by decide +kernel
theorem d_Co_layOut_10 : decode b_Co_layOut 10 = .ok (.aload_n 0, 1) := by decide +kernel
theorem d_Co_layOut_11 : decode b_Co_layOut 11 = .ok (.getfield 35, 3) := by decide +kernel
theorem d_Co_layOut_14 : decode b_Co_layOut 14 = .ok (.iload_n 2, 1) := by decide +kernel
theorem d_Co_layOut_15 : decode b_Co_layOut 15 = .ok (.aaload, 1) := by decide +kernel
theorem d_Co_layOut_16 : decode b_Co_layOut 16 = .ok (.invokevirtual 83, 3) := by decide +kernel
theorem d_Co_layOut_19 : decode b_Co_layOut 19 = .ok (.aload_n 0, 1) := by decide +kernel
theorem d_Co_layOut_20 : decode b_Co_layOut 20 = .ok (.getfield 39, 3) := by decide +kernel
theorem d_Co_layOut_23 : decode b_Co_layOut 23 = .ok (.iload_n 2, 1) := by decide +kernel
theorem d_Co_layOut_24 : decode b_Co_layOut 24 = .ok (.aaload, 1) := by decide +kernel
theorem d_Co_layOut_25 : decode b_Co_layOut 25 = .ok (.invokevirtual 83, 3) := by decide +kernel
theorem d_Co_layOut_28 : decode b_Co_layOut 28 = .ok (.iinc 2 1, 3) := by decide +kernel
theorem d_Co_layOut_31 : decode b_Co_layOut 31 = .ok (.goto (-29), 3) := by decide +kernel
theorem d_Co_layOut_34 : decode b_Co_layOut 34 = .ok (.sipush 140, 3) := by decide +kernel
theorem d_Co_layOut_37 : decode b_Co_layOut 37 = .ok (.istore_n 2, 1) := by decide +kernel
theorem d_Co_layOut_38 : decode b_Co_layOut 38 = .ok (.iload_n 2, 1) := by decide +kernel
theorem d_Co_layOut_39 : decode b_Co_layOut 39 = .ok (.sipush 150, 3) := by decide +kernel
theorem d_Co_layOut_42 : decode b_Co_layOut 42 = .ok (.if_icmp .ge 41, 3) := by decide +kernel
theorem d_Co_layOut_45 : decode b_Co_layOut 45 = .ok (.aload_n 0, 1) := by decide +kernel
theorem d_Co_layOut_46 : decode b_Co_layOut 46 = .ok (.iload_n 2, 1) := by decide +kernel
theorem d_Co_layOut_47 : decode b_Co_layOut 47 = .ok (.invokevirtual 46, 3) := by decide +kernel
theorem d_Co_layOut_50 : decode b_Co_layOut 50 = .ok (.astore_n 3, 1) := by decide +kernel
theorem d_Co_layOut_51 : decode b_Co_layOut 51 = .ok (.aload_n 3, 1) := by decide +kernel
theorem d_Co_layOut_52 : decode b_Co_layOut 52 = .ok (.ifnull 25, 3) := by decide +kernel
theorem d_Co_layOut_55 : decode b_Co_layOut 55 = .ok (.aload_n 3, 1) := by decide +kernel
theorem d_Co_layOut_56 : decode b_Co_layOut 56 = .ok (.getfield 93, 3) := by decide +kernel
theorem d_Co_layOut_59 : decode b_Co_layOut 59 = .ok (.iload_n 1, 1) := by decide +kernel
theorem d_Co_layOut_60 : decode b_Co_layOut 60 = .ok (.if_icmp .ne 17, 3) := by decide +kernel
theorem d_Co_layOut_63 : decode b_Co_layOut 63 = .ok (.aload_n 0, 1) := by decide +kernel
theorem d_Co_layOut_64 : decode b_Co_layOut 64 = .ok (.aload_n 0, 1) := by decide +kernel
theorem d_Co_layOut_65 : decode b_Co_layOut 65 = .ok (.getfield 35, 3) := by decide +kernel
theorem d_Co_layOut_68 : decode b_Co_layOut 68 = .ok (.aload_n 3, 1) := by decide +kernel
theorem d_Co_layOut_69 : decode b_Co_layOut 69 = .ok (.getfield 86, 3) := by decide +kernel
theorem d_Co_layOut_72 : decode b_Co_layOut 72 = .ok (.aaload, 1) := by decide +kernel
theorem d_Co_layOut_73 : decode b_Co_layOut 73 = .ok (.aload_n 3, 1) := by decide +kernel
theorem d_Co_layOut_74 : decode b_Co_layOut 74 = .ok (.invokevirtual 73, 3) := by decide +kernel
theorem d_Co_layOut_77 : decode b_Co_layOut 77 = .ok (.iinc 2 1, 3) := by decide +kernel
theorem d_Co_layOut_80 : decode b_Co_layOut 80 = .ok (.goto (-42), 3) := by decide +kernel
theorem d_Co_layOut_83 : decode b_Co_layOut 83 = .ok (.bipush 20, 2) := by decide +kernel
theorem d_Co_layOut_85 : decode b_Co_layOut 85 = .ok (.istore_n 2, 1) := by decide +kernel
theorem d_Co_layOut_86 : decode b_Co_layOut 86 = .ok (.iload_n 2, 1) := by decide +kernel
theorem d_Co_layOut_87 : decode b_Co_layOut 87 = .ok (.sipush 140, 3) := by decide +kernel
theorem d_Co_layOut_90 : decode b_Co_layOut 90 = .ok (.if_icmp .ge 36, 3) := by decide +kernel
theorem d_Co_layOut_93 : decode b_Co_layOut 93 = .ok (.aload_n 0, 1) := by decide +kernel
theorem d_Co_layOut_94 : decode b_Co_layOut 94 = .ok (.iload_n 2, 1) := by decide +kernel
theorem d_Co_layOut_95 : decode b_Co_layOut 95 = .ok (.invokevirtual 46, 3) := by decide +kernel
theorem d_Co_layOut_98 : decode b_Co_layOut 98 = .ok (.astore_n 3, 1) := by decide +kernel
theorem d_Co_layOut_99 : decode b_Co_layOut 99 = .ok (.aload_n 3, 1) := by decide +kernel
theorem d_Co_layOut_100 : decode b_Co_layOut 100 = .ok (.ifnull 20, 3) := by decide +kernel
theorem d_Co_layOut_103 : decode b_Co_layOut 103 = .ok (.aload_n 3, 1) := by decide +kernel
theorem d_Co_layOut_104 : decode b_Co_layOut 104 = .ok (.getfield 93, 3) := by decide +kernel
theorem d_Co_layOut_107 : decode b_Co_layOut 107 = .ok (.iload_n 1, 1) := by decide +kernel
theorem d_Co_layOut_108 : decode b_Co_layOut 108 = .ok (.if_icmp .ne 12, 3) := by decide +kernel
theorem d_Co_layOut_111 : decode b_Co_layOut 111 = .ok (.aload_n 0, 1) := by decide +kernel
theorem d_Co_layOut_112 : decode b_Co_layOut 112 = .ok (.aload_n 0, 1) := by decide +kernel
theorem d_Co_layOut_113 : decode b_Co_layOut 113 = .ok (.getfield 35, 3) := by decide +kernel
theorem d_Co_layOut_116 : decode b_Co_layOut 116 = .ok (.aload_n 3, 1) := by decide +kernel
theorem d_Co_layOut_117 : decode b_Co_layOut 117 = .ok (.invokevirtual 131, 3) := by decide +kernel
theorem d_Co_layOut_120 : decode b_Co_layOut 120 = .ok (.iinc 2 1, 3) := by decide +kernel
theorem d_Co_layOut_123 : decode b_Co_layOut 123 = .ok (.goto (-37), 3) := by decide +kernel
theorem d_Co_layOut_126 : decode b_Co_layOut 126 = .ok (.return_, 1) := by decide +kernel
theorem d_Co_layOn_0 : decode b_Co_layOn 0 = .ok (.iconst 0, 1) := by decide +kernel
theorem d_Co_layOn_1 : decode b_Co_layOn 1 = .ok (.istore_n 3, 1) := by decide +kernel
theorem d_Co_layOn_2 : decode b_Co_layOn 2 = .ok (.iload_n 3, 1) := by decide +kernel
theorem d_Co_layOn_3 : decode b_Co_layOn 3 = .ok (.aload_n 0, 1) := by decide +kernel
theorem d_Co_layOn_4 : decode b_Co_layOn 4 = .ok (.getfield 24, 3) := by decide +kernel
theorem d_Co_layOn_7 : decode b_Co_layOn 7 = .ok (.if_icmp .ge 27, 3) := by decide +kernel
theorem d_Co_layOn_10 : decode b_Co_layOn 10 = .ok (.aload_n 2, 1) := by decide +kernel
theorem d_Co_layOn_11 : decode b_Co_layOn 11 = .ok (.iload_n 3, 1) := by decide +kernel
theorem d_Co_layOn_12 : decode b_Co_layOn 12 = .ok (.invokevirtual 89, 3) := by decide +kernel
theorem d_Co_layOn_15 : decode b_Co_layOn 15 = .ok (.ifCond .eq 13, 3) := by decide +kernel
theorem d_Co_layOn_18 : decode b_Co_layOn 18 = .ok (.aload_n 1, 1) := by decide +kernel
theorem d_Co_layOn_19 : decode b_Co_layOn 19 = .ok (.iload_n 3, 1) := by decide +kernel
theorem d_Co_layOn_20 : decode b_Co_layOn 20 = .ok (.aaload, 1) := by decide +kernel
theorem d_Co_layOn_21 : decode b_Co_layOn 21 = .ok (.aload_n 2, 1) := by decide +kernel
theorem d_Co_layOn_22 : decode b_Co_layOn 22 = .ok (.getfield 96, 3) := by decide +kernel
theorem d_Co_layOn_25 : decode b_Co_layOn 25 = .ok (.invokevirtual 100, 3) := by decide +kernel
theorem d_Co_layOn_28 : decode b_Co_layOn 28 = .ok (.iinc 3 1, 3) := by decide +kernel
theorem d_Co_layOn_31 : decode b_Co_layOn 31 = .ok (.goto (-29), 3) := by decide +kernel
theorem d_Co_layOn_34 : decode b_Co_layOn 34 = .ok (.return_, 1) := by decide +kernel
theorem d_Co_pointAt_0 : decode b_Co_pointAt 0 = .ok (.aload_n 0, 1) := by decide +kernel
theorem d_Co_pointAt_1 : decode b_Co_pointAt 1 = .ok (.iload_n 1, 1) := by decide +kernel
theorem d_Co_pointAt_2 : decode b_Co_pointAt 2 = .ok (.invokevirtual 46, 3) := by decide +kernel
theorem d_Co_pointAt_5 : decode b_Co_pointAt 5 = .ok (.astore_n 3, 1) := by decide +kernel
theorem d_Co_pointAt_6 : decode b_Co_pointAt 6 = .ok (.aload_n 3, 1) := by decide +kernel
theorem d_Co_pointAt_7 : decode b_Co_pointAt 7 = .ok (.ifnull 23, 3) := by decide +kernel
theorem d_Co_pointAt_10 : decode b_Co_pointAt 10 = .ok (.aload_n 3, 1) := by decide +kernel
theorem d_Co_pointAt_11 : decode b_Co_pointAt 11 = .ok (.getfield 135, 3) := by decide +kernel
theorem d_Co_pointAt_14 : decode b_Co_pointAt 14 = .ok (.iconst 3, 1) := by decide +kernel
theorem d_Co_pointAt_15 : decode b_Co_pointAt 15 = .ok (.if_icmp .ne 15, 3) := by decide +kernel
theorem d_Co_pointAt_18 : decode b_Co_pointAt 18 = .ok (.aload_n 3, 1) := by decide +kernel
theorem d_Co_pointAt_19 : decode b_Co_pointAt 19 = .ok (.getfield 93, 3) := by decide +kernel
theorem d_Co_pointAt_22 : decode b_Co_pointAt 22 = .ok (.iload_n 2, 1) := by decide +kernel
theorem d_Co_pointAt_23 : decode b_Co_pointAt 23 = .ok (.if_icmp .ne 7, 3) := by decide +kernel
theorem d_Co_pointAt_26 : decode b_Co_pointAt 26 = .ok (.iconst 1, 1) := by decide +kernel
theorem d_Co_pointAt_27 : decode b_Co_pointAt 27 = .ok (.goto 4, 3) := by decide +kernel
theorem d_Co_pointAt_30 : decode b_Co_pointAt 30 = .ok (.iconst 0, 1) := by decide +kernel
theorem d_Co_pointAt_31 : decode b_Co_pointAt 31 = .ok (.istore 4, 2) := by decide +kernel
theorem d_Co_pointAt_33 : decode b_Co_pointAt 33 = .ok (.iload 4, 2) := by decide +kernel
theorem d_Co_pointAt_35 : decode b_Co_pointAt 35 = .ok (.ifCond .eq 7, 3) := by decide +kernel
theorem d_Co_pointAt_38 : decode b_Co_pointAt 38 = .ok (.aload_n 3, 1) := by decide +kernel
theorem d_Co_pointAt_39 : decode b_Co_pointAt 39 = .ok (.goto 4, 3) := by decide +kernel
theorem d_Co_pointAt_42 : decode b_Co_pointAt 42 = .ok (.aconst_null, 1) := by decide +kernel
theorem d_Co_pointAt_43 : decode b_Co_pointAt 43 = .ok (.areturn, 1) := by decide +kernel
theorem d_Co_isReached_0 : decode b_Co_isReached 0 = .ok (.iconst 0, 1) := by decide +kernel
theorem d_Co_isReached_1 : decode b_Co_isReached 1 = .ok (.istore_n 2, 1) := by decide +kernel
theorem d_Co_isReached_2 : decode b_Co_isReached 2 = .ok (.iload_n 2, 1) := by decide +kernel
theorem d_Co_isReached_3 : decode b_Co_isReached 3 = .ok (.aload_n 0, 1) := by decide +kernel
theorem d_Co_isReached_4 : decode b_Co_isReached 4 = .ok (.getfield 24, 3) := by decide +kernel
theorem d_Co_isReached_7 : decode b_Co_isReached 7 = .ok (.if_icmp .ge 27, 3) := by decide +kernel
theorem d_Co_isReached_10 : decode b_Co_isReached 10 = .ok (.aload_n 0, 1) := by decide +kernel
theorem d_Co_isReached_11 : decode b_Co_isReached 11 = .ok (.getfield 39, 3) := by decide +kernel
theorem d_Co_isReached_14 : decode b_Co_isReached 14 = .ok (.iload_n 2, 1) := by decide +kernel
theorem d_Co_isReached_15 : decode b_Co_isReached 15 = .ok (.aaload, 1) := by decide +kernel
theorem d_Co_isReached_16 : decode b_Co_isReached 16 = .ok (.aload_n 1, 1) := by decide +kernel
theorem d_Co_isReached_17 : decode b_Co_isReached 17 = .ok (.getfield 96, 3) := by decide +kernel
theorem d_Co_isReached_20 : decode b_Co_isReached 20 = .ok (.invokevirtual 138, 3) := by decide +kernel
theorem d_Co_isReached_23 : decode b_Co_isReached 23 = .ok (.ifCond .eq 5, 3) := by decide +kernel
theorem d_Co_isReached_26 : decode b_Co_isReached 26 = .ok (.iconst 1, 1) := by decide +kernel
theorem d_Co_isReached_27 : decode b_Co_isReached 27 = .ok (.ireturn, 1) := by decide +kernel
theorem d_Co_isReached_28 : decode b_Co_isReached 28 = .ok (.iinc 2 1, 3) := by decide +kernel
theorem d_Co_isReached_31 : decode b_Co_isReached 31 = .ok (.goto (-29), 3) := by decide +kernel
theorem d_Co_isReached_34 : decode b_Co_isReached 34 = .ok (.iconst 0, 1) := by decide +kernel
theorem d_Co_isReached_35 : decode b_Co_isReached 35 = .ok (.ireturn, 1) := by decide +kernel
theorem d_Co_reachFrom_0 : decode b_Co_reachFrom 0 = .ok (.aload_n 0, 1) := by decide +kernel
theorem d_Co_reachFrom_1 : decode b_Co_reachFrom 1 = .ok (.aload_n 0, 1) := by decide +kernel
theorem d_Co_reachFrom_2 : decode b_Co_reachFrom 2 = .ok (.getfield 39, 3) := by decide +kernel
theorem d_Co_reachFrom_5 : decode b_Co_reachFrom 5 = .ok (.aload_n 1, 1) := by decide +kernel
theorem d_Co_reachFrom_6 : decode b_Co_reachFrom 6 = .ok (.invokevirtual 131, 3) := by decide +kernel
theorem d_Co_reachFrom_9 : decode b_Co_reachFrom 9 = .ok (.iconst 1, 1) := by decide +kernel
theorem d_Co_reachFrom_10 : decode b_Co_reachFrom 10 = .ok (.istore_n 2, 1) := by decide +kernel
theorem d_Co_reachFrom_11 : decode b_Co_reachFrom 11 = .ok (.iconst 0, 1) := by decide +kernel
theorem d_Co_reachFrom_12 : decode b_Co_reachFrom 12 = .ok (.istore_n 3, 1) := by decide +kernel
theorem d_Co_reachFrom_13 : decode b_Co_reachFrom 13 = .ok (.iload_n 2, 1) := by decide +kernel
theorem d_Co_reachFrom_14 : decode b_Co_reachFrom 14 = .ok (.ifCond .eq 78, 3) := by decide +kernel
theorem d_Co_reachFrom_17 : decode b_Co_reachFrom 17 = .ok (.iload_n 3, 1) := by decide +kernel
theorem d_Co_reachFrom_18 : decode b_Co_reachFrom 18 = .ok (.sipush 3072, 3) := by decide +kernel
theorem d_Co_reachFrom_21 : decode b_Co_reachFrom 21 = .ok (.if_icmp .gt 71, 3) := by decide +kernel
theorem d_Co_reachFrom_24 : decode b_Co_reachFrom 24 = .ok (.iconst 0, 1) := by decide +kernel
theorem d_Co_reachFrom_25 : decode b_Co_reachFrom 25 = .ok (.istore_n 2, 1) := by decide +kernel
theorem d_Co_reachFrom_26 : decode b_Co_reachFrom 26 = .ok (.iconst 0, 1) := by decide +kernel
theorem d_Co_reachFrom_27 : decode b_Co_reachFrom 27 = .ok (.istore 4, 2) := by decide +kernel
theorem d_Co_reachFrom_29 : decode b_Co_reachFrom 29 = .ok (.iload 4, 2) := by decide +kernel
theorem d_Co_reachFrom_31 : decode b_Co_reachFrom 31 = .ok (.aload_n 0, 1) := by decide +kernel
theorem d_Co_reachFrom_32 : decode b_Co_reachFrom 32 = .ok (.getfield 24, 3) := by decide +kernel
theorem d_Co_reachFrom_35 : decode b_Co_reachFrom 35 = .ok (.if_icmp .ge 39, 3) := by decide +kernel
theorem d_Co_reachFrom_38 : decode b_Co_reachFrom 38 = .ok (.aload_n 0, 1) := by decide +kernel
theorem d_Co_reachFrom_39 : decode b_Co_reachFrom 39 = .ok (.getfield 39, 3) := by decide +kernel
theorem d_Co_reachFrom_42 : decode b_Co_reachFrom 42 = .ok (.iload 4, 2) := by decide +kernel
theorem d_Co_reachFrom_44 : decode b_Co_reachFrom 44 = .ok (.aaload, 1) := by decide +kernel
theorem d_Co_reachFrom_45 : decode b_Co_reachFrom 45 = .ok (.aload_n 0, 1) := by decide +kernel
theorem d_Co_reachFrom_46 : decode b_Co_reachFrom 46 = .ok (.getfield 35, 3) := by decide +kernel
theorem d_Co_reachFrom_49 : decode b_Co_reachFrom 49 = .ok (.iload 4, 2) := by decide +kernel
theorem d_Co_reachFrom_51 : decode b_Co_reachFrom 51 = .ok (.aaload, 1) := by decide +kernel
theorem d_Co_reachFrom_52 : decode b_Co_reachFrom 52 = .ok (.invokevirtual 112, 3) := by decide +kernel
theorem d_Co_reachFrom_55 : decode b_Co_reachFrom 55 = .ok (.ifCond .ne 7, 3) := by decide +kernel
theorem d_Co_reachFrom_58 : decode b_Co_reachFrom 58 = .ok (.iload_n 2, 1) := by decide +kernel
theorem d_Co_reachFrom_59 : decode b_Co_reachFrom 59 = .ok (.ifCond .eq 7, 3) := by decide +kernel
theorem d_Co_reachFrom_62 : decode b_Co_reachFrom 62 = .ok (.iconst 1, 1) := by decide +kernel
theorem d_Co_reachFrom_63 : decode b_Co_reachFrom 63 = .ok (.goto 4, 3) := by decide +kernel
theorem d_Co_reachFrom_66 : decode b_Co_reachFrom 66 = .ok (.iconst 0, 1) := by decide +kernel
theorem d_Co_reachFrom_67 : decode b_Co_reachFrom 67 = .ok (.istore_n 2, 1) := by decide +kernel
theorem d_Co_reachFrom_68 : decode b_Co_reachFrom 68 = .ok (.iinc 4 1, 3) := by decide +kernel
theorem d_Co_reachFrom_71 : decode b_Co_reachFrom 71 = .ok (.goto (-42), 3) := by decide +kernel
theorem d_Co_reachFrom_74 : decode b_Co_reachFrom 74 = .ok (.iload_n 2, 1) := by decide +kernel
theorem d_Co_reachFrom_75 : decode b_Co_reachFrom 75 = .ok (.ifCond .eq 11, 3) := by decide +kernel
theorem d_Co_reachFrom_78 : decode b_Co_reachFrom 78 = .ok (.aload_n 0, 1) := by decide +kernel
theorem d_Co_reachFrom_79 : decode b_Co_reachFrom 79 = .ok (.aload_n 1, 1) := by decide +kernel
theorem d_Co_reachFrom_80 : decode b_Co_reachFrom 80 = .ok (.getfield 93, 3) := by decide +kernel
theorem d_Co_reachFrom_83 : decode b_Co_reachFrom 83 = .ok (.invokevirtual 142, 3) := by decide +kernel
theorem d_Co_reachFrom_86 : decode b_Co_reachFrom 86 = .ok (.iinc 3 1, 3) := by decide +kernel
theorem d_Co_reachFrom_89 : decode b_Co_reachFrom 89 = .ok (.goto (-76), 3) := by decide +kernel
theorem d_Co_reachFrom_92 : decode b_Co_reachFrom 92 = .ok (.return_, 1) := by decide +kernel
theorem d_Co_joinLayers_0 : decode b_Co_joinLayers 0 = .ok (.bipush 20, 2) := by decide +kernel
theorem d_Co_joinLayers_2 : decode b_Co_joinLayers 2 = .ok (.istore_n 2, 1) := by decide +kernel
theorem d_Co_joinLayers_3 : decode b_Co_joinLayers 3 = .ok (.iload_n 2, 1) := by decide +kernel
theorem d_Co_joinLayers_4 : decode b_Co_joinLayers 4 = .ok (.sipush 140, 3) := by decide +kernel
theorem d_Co_joinLayers_7 : decode b_Co_joinLayers 7 = .ok (.if_icmp .ge 37, 3) := by decide +kernel
theorem d_Co_joinLayers_10 : decode b_Co_joinLayers 10 = .ok (.aload_n 0, 1) := by decide +kernel
theorem d_Co_joinLayers_11 : decode b_Co_joinLayers 11 = .ok (.iload_n 2, 1) := by decide +kernel
theorem d_Co_joinLayers_12 : decode b_Co_joinLayers 12 = .ok (.iload_n 1, 1) := by decide +kernel
theorem d_Co_joinLayers_13 : decode b_Co_joinLayers 13 = .ok (.invokevirtual 120, 3) := by decide +kernel
theorem d_Co_joinLayers_16 : decode b_Co_joinLayers 16 = .ok (.astore_n 3, 1) := by decide +kernel
theorem d_Co_joinLayers_17 : decode b_Co_joinLayers 17 = .ok (.aload_n 3, 1) := by decide +kernel
theorem d_Co_joinLayers_18 : decode b_Co_joinLayers 18 = .ok (.ifnull 20, 3) := by decide +kernel
theorem d_Co_joinLayers_21 : decode b_Co_joinLayers 21 = .ok (.aload_n 0, 1) := by decide +kernel
theorem d_Co_joinLayers_22 : decode b_Co_joinLayers 22 = .ok (.aload_n 3, 1) := by decide +kernel
theorem d_Co_joinLayers_23 : decode b_Co_joinLayers 23 = .ok (.invokevirtual 124, 3) := by decide +kernel
theorem d_Co_joinLayers_26 : decode b_Co_joinLayers 26 = .ok (.ifCond .eq 12, 3) := by decide +kernel
theorem d_Co_joinLayers_29 : decode b_Co_joinLayers 29 = .ok (.aload_n 0, 1) := by decide +kernel
theorem d_Co_joinLayers_30 : decode b_Co_joinLayers 30 = .ok (.aload_n 0, 1) := by decide +kernel
theorem d_Co_joinLayers_31 : decode b_Co_joinLayers 31 = .ok (.getfield 39, 3) := by decide +kernel
theorem d_Co_joinLayers_34 : decode b_Co_joinLayers 34 = .ok (.aload_n 3, 1) := by decide +kernel
theorem d_Co_joinLayers_35 : decode b_Co_joinLayers 35 = .ok (.invokevirtual 131, 3) := by decide +kernel
theorem d_Co_joinLayers_38 : decode b_Co_joinLayers 38 = .ok (.iinc 2 1, 3) := by decide +kernel
theorem d_Co_joinLayers_41 : decode b_Co_joinLayers 41 = .ok (.goto (-38), 3) := by decide +kernel
theorem d_Co_joinLayers_44 : decode b_Co_joinLayers 44 = .ok (.return_, 1) := by decide +kernel
