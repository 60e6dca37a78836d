theorem d_Ho_init_0 : decode b_Ho_init 0 = .ok (.aload_n 0, 1) := by decide +kernel
theorem d_Ho_init_1 : decode b_Ho_init 1 = .ok (.invokespecial 3, 3) := by decide +kernel
theorem d_Ho_init_4 : decode b_Ho_init 4 = .ok (.aload_n 0, 1) := by decide +kernel
theorem d_Ho_init_5 : decode b_Ho_init 5 = .ok (.new 9, 3) := by decide +kernel
theorem d_Ho_init_8 : decode b_Ho_init 8 = .ok (.dup, 1) := by decide +kernel
theorem d_Ho_init_9 : decode b_Ho_init 9 = .ok (.iconst 0, 1) := by decide +kernel
theorem d_Ho_init_10 : decode b_Ho_init 10 = .ok (.iconst 0, 1) := by decide +kernel
theorem d_Ho_init_11 : decode b_Ho_init 11 = .ok (.bipush 31, 2) := by decide +kernel
theorem d_Ho_init_13 : decode b_Ho_init 13 = .ok (.bipush 23, 2) := by decide +kernel
theorem d_Ho_init_15 : decode b_Ho_init 15 = .ok (.invokespecial 11, 3) := by decide +kernel
theorem d_Ho_init_18 : decode b_Ho_init 18 = .ok (.putfield 14, 3) := by decide +kernel
theorem d_Ho_init_21 : decode b_Ho_init 21 = .ok (.aload_n 0, 1) := by decide +kernel
theorem d_Ho_init_22 : decode b_Ho_init 22 = .ok (.bipush 8, 2) := by decide +kernel
theorem d_Ho_init_24 : decode b_Ho_init 24 = .ok (.newarray .int, 2) := by decide +kernel
theorem d_Ho_init_26 : decode b_Ho_init 26 = .ok (.putfield 18, 3) := by decide +kernel
theorem d_Ho_init_29 : decode b_Ho_init 29 = .ok (.aload_n 0, 1) := by decide +kernel
theorem d_Ho_init_30 : decode b_Ho_init 30 = .ok (.getstatic 22, 3) := by decide +kernel
theorem d_Ho_init_33 : decode b_Ho_init 33 = .ok (.bipush 6, 2) := by decide +kernel
theorem d_Ho_init_35 : decode b_Ho_init 35 = .ok (.iaload, 1) := by decide +kernel
theorem d_Ho_init_36 : decode b_Ho_init 36 = .ok (.anewarray 25, 3) := by decide +kernel
theorem d_Ho_init_39 : decode b_Ho_init 39 = .ok (.putfield 27, 3) := by decide +kernel
theorem d_Ho_init_42 : decode b_Ho_init 42 = .ok (.aload_n 0, 1) := by decide +kernel
theorem d_Ho_init_43 : decode b_Ho_init 43 = .ok (.getstatic 22, 3) := by decide +kernel
theorem d_Ho_init_46 : decode b_Ho_init 46 = .ok (.bipush 7, 2) := by decide +kernel
theorem d_Ho_init_48 : decode b_Ho_init 48 = .ok (.iaload, 1) := by decide +kernel
theorem d_Ho_init_49 : decode b_Ho_init 49 = .ok (.anewarray 31, 3) := by decide +kernel
theorem d_Ho_init_52 : decode b_Ho_init 52 = .ok (.putfield 33, 3) := by decide +kernel
theorem d_Ho_init_55 : decode b_Ho_init 55 = .ok (.aload_n 0, 1) := by decide +kernel
theorem d_Ho_init_56 : decode b_Ho_init 56 = .ok (.aconst_null, 1) := by decide +kernel
theorem d_Ho_init_57 : decode b_Ho_init 57 = .ok (.putfield 37, 3) := by decide +kernel
theorem d_Ho_init_60 : decode b_Ho_init 60 = .ok (.aload_n 0, 1) := by decide +kernel
theorem d_Ho_init_61 : decode b_Ho_init 61 = .ok (.iconst 0, 1) := by decide +kernel
theorem d_Ho_init_62 : decode b_Ho_init 62 = .ok (.putfield 41, 3) := by decide +kernel
theorem d_Ho_init_65 : decode b_Ho_init 65 = .ok (.aload_n 0, 1) := by decide +kernel
theorem d_Ho_init_66 : decode b_Ho_init 66 = .ok (.iconst 1, 1) := by decide +kernel
theorem d_Ho_init_67 : decode b_Ho_init 67 = .ok (.iconst 4, 1) := by decide +kernel
theorem d_Ho_init_68 : decode b_Ho_init 68 = .ok (.iload_n 1, 1) := by decide +kernel
theorem d_Ho_init_69 : decode b_Ho_init 69 = .ok (.invokestatic 45, 3) := by decide +kernel
theorem d_Ho_init_72 : decode b_Ho_init 72 = .ok (.invokestatic 51, 3) := by decide +kernel
theorem d_Ho_init_75 : decode b_Ho_init 75 = .ok (.putfield 54, 3) := by decide +kernel
theorem d_Ho_init_78 : decode b_Ho_init 78 = .ok (.aload_n 0, 1) := by decide +kernel
theorem d_Ho_init_79 : decode b_Ho_init 79 = .ok (.new 57, 3) := by decide +kernel
theorem d_Ho_init_82 : decode b_Ho_init 82 = .ok (.dup, 1) := by decide +kernel
theorem d_Ho_init_83 : decode b_Ho_init 83 = .ok (.aload_n 0, 1) := by decide +kernel
theorem d_Ho_init_84 : decode b_Ho_init 84 = .ok (.getfield 54, 3) := by decide +kernel
theorem d_Ho_init_87 : decode b_Ho_init 87 = .ok (.iconst 0, 1) := by decide +kernel
theorem d_Ho_init_88 : decode b_Ho_init 88 = .ok (.iconst 4, 1) := by decide +kernel
theorem d_Ho_init_89 : decode b_Ho_init 89 = .ok (.iload_n 2, 1) := by decide +kernel
theorem d_Ho_init_90 : decode b_Ho_init 90 = .ok (.invokestatic 45, 3) := by decide +kernel
theorem d_Ho_init_93 : decode b_Ho_init 93 = .ok (.invokestatic 51, 3) := by decide +kernel
theorem d_Ho_init_96 : decode b_Ho_init 96 = .ok (.invokespecial 59, 3) := by decide +kernel
theorem d_Ho_init_99 : decode b_Ho_init 99 = .ok (.putfield 62, 3) := by decide +kernel
theorem d_Ho_init_102 : decode b_Ho_init 102 = .ok (.aload_n 0, 1) := by decide +kernel
theorem d_Ho_init_103 : decode b_Ho_init 103 = .ok (.aload_n 0, 1) := by decide +kernel
theorem d_Ho_init_104 : decode b_Ho_init 104 = .ok (.getfield 62, 3) := by decide +kernel
theorem d_Ho_init_107 : decode b_Ho_init 107 = .ok (.getfield 66, 3) := by decide +kernel
theorem d_Ho_init_110 : decode b_Ho_init 110 = .ok (.putfield 70, 3) := by decide +kernel
theorem d_Ho_init_113 : decode b_Ho_init 113 = .ok (.return_, 1) := by decide +kernel
theorem d_Ho_net_0 : decode b_Ho_net 0 = .ok (.aload_n 0, 1) := by decide +kernel
theorem d_Ho_net_1 : decode b_Ho_net 1 = .ok (.aload_n 0, 1) := by decide +kernel
theorem d_Ho_net_2 : decode b_Ho_net 2 = .ok (.iconst 1, 1) := by decide +kernel
theorem d_Ho_net_3 : decode b_Ho_net 3 = .ok (.invokevirtual 71, 3) := by decide +kernel
theorem d_Ho_net_6 : decode b_Ho_net 6 = .ok (.ifCond .eq 7, 3) := by decide +kernel
theorem d_Ho_net_9 : decode b_Ho_net 9 = .ok (.iconst 1, 1) := by decide +kernel
theorem d_Ho_net_10 : decode b_Ho_net 10 = .ok (.goto 4, 3) := by decide +kernel
theorem d_Ho_net_13 : decode b_Ho_net 13 = .ok (.iconst 0, 1) := by decide +kernel
theorem d_Ho_net_14 : decode b_Ho_net 14 = .ok (.putfield 41, 3) := by decide +kernel
theorem d_Ho_net_17 : decode b_Ho_net 17 = .ok (.aload_n 0, 1) := by decide +kernel
theorem d_Ho_net_18 : decode b_Ho_net 18 = .ok (.getfield 41, 3) := by decide +kernel
theorem d_Ho_net_21 : decode b_Ho_net 21 = .ok (.ifCond .ne 11, 3) := by decide +kernel
theorem d_Ho_net_24 : decode b_Ho_net 24 = .ok (.aload_n 0, 1) := by decide +kernel
theorem d_Ho_net_25 : decode b_Ho_net 25 = .ok (.iconst 1, 1) := by decide +kernel
theorem d_Ho_net_26 : decode b_Ho_net 26 = .ok (.invokevirtual 75, 3) := by decide +kernel
theorem d_Ho_net_29 : decode b_Ho_net 29 = .ok (.goto 4, 3) := by decide +kernel
theorem d_Ho_net_32 : decode b_Ho_net 32 = .ok (.iconst (-1), 1) := by decide +kernel
theorem d_Ho_net_33 : decode b_Ho_net 33 = .ok (.ireturn, 1) := by decide +kernel
theorem d_Ho_part_0 : decode b_Ho_part 0 = .ok (.iload_n 1, 1) := by decide +kernel
theorem d_Ho_part_1 : decode b_Ho_part 1 = .ok (.iconst 1, 1) := by decide +kernel
theorem d_Ho_part_2 : decode b_Ho_part 2 = .ok (.if_icmp .lt 20, 3) := by decide +kernel
theorem d_Ho_part_5 : decode b_Ho_part 5 = .ok (.iload_n 1, 1) := by decide +kernel
theorem d_Ho_part_6 : decode b_Ho_part 6 = .ok (.bipush 8, 2) := by decide +kernel
theorem d_Ho_part_8 : decode b_Ho_part 8 = .ok (.if_icmp .gt 14, 3) := by decide +kernel
theorem d_Ho_part_11 : decode b_Ho_part 11 = .ok (.iload_n 2, 1) := by decide +kernel
theorem d_Ho_part_12 : decode b_Ho_part 12 = .ok (.iconst 1, 1) := by decide +kernel
theorem d_Ho_part_13 : decode b_Ho_part 13 = .ok (.if_icmp .lt 9, 3) := by decide +kernel
theorem d_Ho_part_16 : decode b_Ho_part 16 = .ok (.iload_n 2, 1) := by decide +kernel
theorem d_Ho_part_17 : decode b_Ho_part 17 = .ok (.bipush 8, 2) := by decide +kernel
theorem d_Ho_part_19 : decode b_Ho_part 19 = .ok (.if_icmp .le 13, 3) := by decide +kernel
theorem d_Ho_part_22 : decode b_Ho_part 22 = .ok (.new 79, 3) := by decide +kernel
theorem d_Ho_part_25 : decode b_Ho_part 25 = .ok (.dup, 1) := by decide +kernel
theorem d_Ho_part_26 : decode b_Ho_part 26 = .ok (.ldc 81, 2) := by decide +kernel
theorem d_Ho_part_28 : decode b_Ho_part 28 = .ok (.invokespecial 83, 3) := by decide +kernel
theorem d_Ho_part_31 : decode b_Ho_part 31 = .ok (.athrow, 1) := by decide +kernel
theorem d_Ho_part_32 : decode b_Ho_part 32 = .ok (.iload 5, 2) := by decide +kernel
theorem d_Ho_part_34 : decode b_Ho_part 34 = .ok (.ifCond .eq 19, 3) := by decide +kernel
theorem d_Ho_part_37 : decode b_Ho_part 37 = .ok (.iload 5, 2) := by decide +kernel
theorem d_Ho_part_39 : decode b_Ho_part 39 = .ok (.iconst 1, 1) := by decide +kernel
theorem d_Ho_part_40 : decode b_Ho_part 40 = .ok (.if_icmp .eq 13, 3) := by decide +kernel
theorem d_Ho_part_43 : decode b_Ho_part 43 = .ok (.new 79, 3) := by decide +kernel
theorem d_Ho_part_46 : decode b_Ho_part 46 = .ok (.dup, 1) := by decide +kernel
theorem d_Ho_part_47 : decode b_Ho_part 47 = .ok (.ldc 86, 2) := by decide +kernel
theorem d_Ho_part_49 : decode b_Ho_part 49 = .ok (.invokespecial 83, 3) := by decide +kernel
theorem d_Ho_part_52 : decode b_Ho_part 52 = .ok (.athrow, 1) := by decide +kernel
theorem d_Ho_part_53 : decode b_Ho_part 53 = .ok (.new 9, 3) := by decide +kernel
theorem d_Ho_part_56 : decode b_Ho_part 56 = .ok (.dup, 1) := by decide +kernel
theorem d_Ho_part_57 : decode b_Ho_part 57 = .ok (.iload_n 3, 1) := by decide +kernel
theorem d_Ho_part_58 : decode b_Ho_part 58 = .ok (.iload 4, 2) := by decide +kernel
theorem d_Ho_part_60 : decode b_Ho_part 60 = .ok (.iload_n 3, 1) := by decide +kernel
theorem d_Ho_part_61 : decode b_Ho_part 61 = .ok (.iload_n 1, 1) := by decide +kernel
theorem d_Ho_part_62 : decode b_Ho_part 62 = .ok (.iconst 1, 1) := by decide +kernel
theorem d_Ho_part_63 : decode b_Ho_part 63 = .ok (.isub, 1) := by decide +kernel
theorem d_Ho_part_64 : decode b_Ho_part 64 = .ok (.iadd, 1) := by decide +kernel
theorem d_Ho_part_65 : decode b_Ho_part 65 = .ok (.iload 4, 2) := by decide +kernel
theorem d_Ho_part_67 : decode b_Ho_part 67 = .ok (.iload_n 2, 1) := by decide +kernel
theorem d_Ho_part_68 : decode b_Ho_part 68 = .ok (.iconst 1, 1) := by decide +kernel
theorem d_Ho_part_69 : decode b_Ho_part 69 = .ok (.isub, 1) := by decide +kernel
theorem d_Ho_part_70 : decode b_Ho_part 70 = .ok (.iadd, 1) := by decide +kernel
theorem d_Ho_part_71 : decode b_Ho_part 71 = .ok (.invokespecial 11, 3) := by decide +kernel
theorem d_Ho_part_74 : decode b_Ho_part 74 = .ok (.astore 6, 2) := by decide +kernel
theorem d_Ho_part_76 : decode b_Ho_part 76 = .ok (.aload_n 0, 1) := by decide +kernel
theorem d_Ho_part_77 : decode b_Ho_part 77 = .ok (.new 88, 3) := by decide +kernel
theorem d_Ho_part_80 : decode b_Ho_part 80 = .ok (.dup, 1) := by decide +kernel
theorem d_Ho_part_81 : decode b_Ho_part 81 = .ok (.iconst 2, 1) := by decide +kernel
theorem d_Ho_part_82 : decode b_Ho_part 82 = .ok (.aload_n 0, 1) := by decide +kernel
theorem d_Ho_part_83 : decode b_Ho_part 83 = .ok (.getfield 18, 3) := by decide +kernel
theorem d_Ho_part_86 : decode b_Ho_part 86 = .ok (.iconst 2, 1) := by decide +kernel
theorem d_Ho_part_87 : decode b_Ho_part 87 = .ok (.iaload, 1) := by decide +kernel
theorem d_Ho_part_88 : decode b_Ho_part 88 = .ok (.aload 6, 2) := by decide +kernel
theorem d_Ho_part_90 : decode b_Ho_part 90 = .ok (.iload 5, 2) := by decide +kernel
theorem d_Ho_part_92 : decode b_Ho_part 92 = .ok (.iconst (-1), 1) := by decide +kernel
theorem d_Ho_part_93 : decode b_Ho_part 93 = .ok (.iconst (-1), 1) := by decide +kernel
theorem d_Ho_part_94 : decode b_Ho_part 94 = .ok (.invokespecial 90, 3) := by decide +kernel
theorem d_Ho_part_97 : decode b_Ho_part 97 = .ok (.aload_n 0, 1) := by decide +kernel
theorem d_Ho_part_98 : decode b_Ho_part 98 = .ok (.getfield 14, 3) := by decide +kernel
theorem d_Ho_part_101 : decode b_Ho_part 101 = .ok (.invokevirtual 93, 3) := by decide +kernel
theorem d_Ho_part_104 : decode b_Ho_part 104 = .ok (.ireturn, 1) := by decide +kernel
theorem d_Ho_pad_0 : decode b_Ho_pad 0 = .ok (.aload_n 0, 1) := by decide +kernel
theorem d_Ho_pad_1 : decode b_Ho_pad 1 = .ok (.iload_n 1, 1) := by decide +kernel
theorem d_Ho_pad_2 : decode b_Ho_pad 2 = .ok (.invokevirtual 97, 3) := by decide +kernel
theorem d_Ho_pad_5 : decode b_Ho_pad 5 = .ok (.aload_n 0, 1) := by decide +kernel
theorem d_Ho_pad_6 : decode b_Ho_pad 6 = .ok (.iload_n 2, 1) := by decide +kernel
theorem d_Ho_pad_7 : decode b_Ho_pad 7 = .ok (.invokevirtual 97, 3) := by decide +kernel
theorem d_Ho_pad_10 : decode b_Ho_pad 10 = .ok (.iload_n 1, 1) := by decide +kernel
theorem d_Ho_pad_11 : decode b_Ho_pad 11 = .ok (.iconst 2, 1) := by decide +kernel
theorem d_Ho_pad_12 : decode b_Ho_pad 12 = .ok (.invokestatic 101, 3) := by decide +kernel
theorem d_Ho_pad_15 : decode b_Ho_pad 15 = .ok (.iload_n 2, 1) := by decide +kernel
theorem d_Ho_pad_16 : decode b_Ho_pad 16 = .ok (.iconst 1, 1) := by decide +kernel
theorem d_Ho_pad_17 : decode b_Ho_pad 17 = .ok (.invokestatic 101, 3) := by decide +kernel
theorem d_Ho_pad_20 : decode b_Ho_pad 20 = .ok (.aload_n 0, 1) := by decide +kernel
theorem d_Ho_pad_21 : decode b_Ho_pad 21 = .ok (.iload_n 1, 1) := by decide +kernel
theorem d_Ho_pad_22 : decode b_Ho_pad 22 = .ok (.invokevirtual 104, 3) := by decide +kernel
theorem d_Ho_pad_25 : decode b_Ho_pad 25 = .ok (.astore 5, 2) := by decide +kernel
theorem d_Ho_pad_27 : decode b_Ho_pad 27 = .ok (.aload 5, 2) := by decide +kernel
theorem d_Ho_pad_29 : decode b_Ho_pad 29 = .ok (.invokestatic 108, 3) := by decide +kernel
theorem d_Ho_pad_32 : decode b_Ho_pad 32 = .ok (.aload 5, 2) := by decide +kernel
theorem d_Ho_pad_34 : decode b_Ho_pad 34 = .ok (.getfield 112, 3) := by decide +kernel
theorem d_Ho_pad_37 : decode b_Ho_pad 37 = .ok (.getfield 115, 3) := by decide +kernel
theorem d_Ho_pad_40 : decode b_Ho_pad 40 = .ok (.iload_n 3, 1) := by decide +kernel
theorem d_Ho_pad_41 : decode b_Ho_pad 41 = .ok (.iadd, 1) := by decide +kernel
theorem d_Ho_pad_42 : decode b_Ho_pad 42 = .ok (.istore 6, 2) := by decide +kernel
theorem d_Ho_pad_44 : decode b_Ho_pad 44 = .ok (.aload 5, 2) := by decide +kernel
theorem d_Ho_pad_46 : decode b_Ho_pad 46 = .ok (.getfield 112, 3) := by decide +kernel
theorem d_Ho_pad_49 : decode b_Ho_pad 49 = .ok (.getfield 118, 3) := by decide +kernel
theorem d_Ho_pad_52 : decode b_Ho_pad 52 = .ok (.iload 4, 2) := by decide +kernel
theorem d_Ho_pad_54 : decode b_Ho_pad 54 = .ok (.iadd, 1) := by decide +kernel
theorem d_Ho_pad_55 : decode b_Ho_pad 55 = .ok (.istore 7, 2) := by decide +kernel
theorem d_Ho_pad_57 : decode b_Ho_pad 57 = .ok (.aload_n 0, 1) := by decide +kernel
theorem d_Ho_pad_58 : decode b_Ho_pad 58 = .ok (.new 88, 3) := by decide +kernel
theorem d_Ho_pad_61 : decode b_Ho_pad 61 = .ok (.dup, 1) := by decide +kernel
theorem d_Ho_pad_62 : decode b_Ho_pad 62 = .ok (.iconst 3, 1) := by decide +kernel
theorem d_Ho_pad_63 : decode b_Ho_pad 63 = .ok (.aload_n 0, 1) := by decide +kernel
theorem d_Ho_pad_64 : decode b_Ho_pad 64 = .ok (.getfield 18, 3) := by decide +kernel
theorem d_Ho_pad_67 : decode b_Ho_pad 67 = .ok (.iconst 3, 1) := by decide +kernel
theorem d_Ho_pad_68 : decode b_Ho_pad 68 = .ok (.iaload, 1) := by decide +kernel
theorem d_Ho_pad_69 : decode b_Ho_pad 69 = .ok (.new 9, 3) := by decide +kernel
theorem d_Ho_pad_72 : decode b_Ho_pad 72 = .ok (.dup, 1) := by decide +kernel
theorem d_Ho_pad_73 : decode b_Ho_pad 73 = .ok (.iload 6, 2) := by decide +kernel
theorem d_Ho_pad_75 : decode b_Ho_pad 75 = .ok (.iload 7, 2) := by decide +kernel
theorem d_Ho_pad_77 : decode b_Ho_pad 77 = .ok (.iload 6, 2) := by decide +kernel
theorem d_Ho_pad_79 : decode b_Ho_pad 79 = .ok (.iload 7, 2) := by decide +kernel
theorem d_Ho_pad_81 : decode b_Ho_pad 81 = .ok (.invokespecial 11, 3) := by decide +kernel
theorem d_Ho_pad_84 : decode b_Ho_pad 84 = .ok (.iconst 0, 1) := by decide +kernel
theorem d_Ho_pad_85 : decode b_Ho_pad 85 = .ok (.iload_n 2, 1) := by decide +kernel
theorem d_Ho_pad_86 : decode b_Ho_pad 86 = .ok (.iload_n 1, 1) := by decide +kernel
theorem d_Ho_pad_87 : decode b_Ho_pad 87 = .ok (.invokespecial 90, 3) := by decide +kernel
theorem d_Ho_pad_90 : decode b_Ho_pad 90 = .ok (.aload 5, 2) := by decide +kernel
theorem d_Ho_pad_92 : decode b_Ho_pad 92 = .ok (.getfield 112, 3) := by decide +kernel
theorem d_Ho_pad_95 : decode b_Ho_pad 95 = .ok (.invokevirtual 93, 3) := by decide +kernel
theorem d_Ho_pad_98 : decode b_Ho_pad 98 = .ok (.ireturn, 1) := by decide +kernel
theorem d_Ho_via_0 : decode b_Ho_via 0 = .ok (.aload_n 0, 1) := by decide +kernel
theorem d_Ho_via_1 : decode b_Ho_via 1 = .ok (.iload_n 1, 1) := by decide +kernel
theorem d_Ho_via_2 : decode b_Ho_via 2 = .ok (.invokevirtual 97, 3) := by decide +kernel
theorem d_Ho_via_5 : decode b_Ho_via 5 = .ok (.iload_n 1, 1) := by decide +kernel
theorem d_Ho_via_6 : decode b_Ho_via 6 = .ok (.iconst 1, 1) := by decide +kernel
theorem d_Ho_via_7 : decode b_Ho_via 7 = .ok (.invokestatic 101, 3) := by decide +kernel
theorem d_Ho_via_10 : decode b_Ho_via 10 = .ok (.aload_n 0, 1) := by decide +kernel
theorem d_Ho_via_11 : decode b_Ho_via 11 = .ok (.new 88, 3) := by decide +kernel
theorem d_Ho_via_14 : decode b_Ho_via 14 = .ok (.dup, 1) := by decide +kernel
theorem d_Ho_via_15 : decode b_Ho_via 15 = .ok (.iconst 3, 1) := by decide +kernel
theorem d_Ho_via_16 : decode b_Ho_via 16 = .ok (.aload_n 0, 1) := by decide +kernel
theorem d_Ho_via_17 : decode b_Ho_via 17 = .ok (.getfield 18, 3) := by decide +kernel
theorem d_Ho_via_20 : decode b_Ho_via 20 = .ok (.iconst 3, 1) := by decide +kernel
theorem d_Ho_via_21 : decode b_Ho_via 21 = .ok (.iaload, 1) := by decide +kernel
theorem d_Ho_via_22 : decode b_Ho_via 22 = .ok (.new 9, 3) := by decide +kernel
theorem d_Ho_via_25 : decode b_Ho_via 25 = .ok (.dup, 1) := by decide +kernel
theorem d_Ho_via_26 : decode b_Ho_via 26 = .ok (.iload_n 2, 1) := by decide +kernel
theorem d_Ho_via_27 : decode b_Ho_via 27 = .ok (.iload_n 3, 1) := by decide +kernel
theorem d_Ho_via_28 : decode b_Ho_via 28 = .ok (.iload_n 2, 1) := by decide +kernel
theorem d_Ho_via_29 : decode b_Ho_via 29 = .ok (.iload_n 3, 1) := by decide +kernel
theorem d_Ho_via_30 : decode b_Ho_via 30 = .ok (.invokespecial 11, 3) := by decide +kernel
theorem d_Ho_via_33 : decode b_Ho_via 33 = .ok (.iconst 0, 1) := by decide +kernel
theorem d_Ho_via_34 : decode b_Ho_via 34 = .ok (.iload_n 1, 1) := by decide +kernel
theorem d_Ho_via_35 : decode b_Ho_via 35 = .ok (.iconst (-1), 1) := by decide +kernel
theorem d_Ho_via_36 : decode b_Ho_via 36 = .ok (.invokespecial 90, 3) := by decide +kernel
theorem d_Ho_via_39 : decode b_Ho_via 39 = .ok (.aload_n 0, 1) := by decide +kernel
theorem d_Ho_via_40 : decode b_Ho_via 40 = .ok (.getfield 14, 3) := by decide +kernel
theorem d_Ho_via_43 : decode b_Ho_via 43 = .ok (.invokevirtual 93, 3) := by decide +kernel
theorem d_Ho_via_46 : decode b_Ho_via 46 = .ok (.ireturn, 1) := by decide +kernel
theorem d_Ho_track_0 : decode b_Ho_track 0 = .ok (.aload_n 0, 1) := by decide +kernel
theorem d_Ho_track_1 : decode b_Ho_track 1 = .ok (.iload_n 1, 1) := by decide +kernel
theorem d_Ho_track_2 : decode b_Ho_track 2 = .ok (.invokevirtual 97, 3) := by decide +kernel
theorem d_Ho_track_5 : decode b_Ho_track 5 = .ok (.aload_n 0, 1) := by decide +kernel
theorem d_Ho_track_6 : decode b_Ho_track 6 = .ok (.iload_n 2, 1) := by decide +kernel
theorem d_Ho_track_7 : decode b_Ho_track 7 = .ok (.invokevirtual 121, 3) := by decide +kernel
theorem d_Ho_track_10 : decode b_Ho_track 10 = .ok (.iload_n 1, 1) := by decide +kernel
theorem d_Ho_track_11 : decode b_Ho_track 11 = .ok (.iconst 1, 1) := by decide +kernel
theorem d_Ho_track_12 : decode b_Ho_track 12 = .ok (.invokestatic 101, 3) := by decide +kernel
theorem d_Ho_track_15 : decode b_Ho_track 15 = .ok (.iload_n 3, 1) := by decide +kernel
theorem d_Ho_track_16 : decode b_Ho_track 16 = .ok (.iload 5, 2) := by decide +kernel
theorem d_Ho_track_18 : decode b_Ho_track 18 = .ok (.if_icmp .eq 20, 3) := by decide +kernel
theorem d_Ho_track_21 : decode b_Ho_track 21 = .ok (.iload 4, 2) := by decide +kernel
theorem d_Ho_track_23 : decode b_Ho_track 23 = .ok (.iload 6, 2) := by decide +kernel
theorem d_Ho_track_25 : decode b_Ho_track 25 = .ok (.if_icmp .eq 13, 3) := by decide +kernel
theorem d_Ho_track_28 : decode b_Ho_track 28 = .ok (.new 79, 3) := by decide +kernel
theorem d_Ho_track_31 : decode b_Ho_track 31 = .ok (.dup, 1) := by decide +kernel
theorem d_Ho_track_32 : decode b_Ho_track 32 = .ok (.ldc 124, 2) := by decide +kernel
theorem d_Ho_track_34 : decode b_Ho_track 34 = .ok (.invokespecial 83, 3) := by decide +kernel
theorem d_Ho_track_37 : decode b_Ho_track 37 = .ok (.athrow, 1) := by decide +kernel
theorem d_Ho_track_38 : decode b_Ho_track 38 = .ok (.new 9, 3) := by decide +kernel
theorem d_Ho_track_41 : decode b_Ho_track 41 = .ok (.dup, 1) := by decide +kernel
theorem d_Ho_track_42 : decode b_Ho_track 42 = .ok (.iload_n 3, 1) := by decide +kernel
theorem d_Ho_track_43 : decode b_Ho_track 43 = .ok (.iload 5, 2) := by decide +kernel
theorem d_Ho_track_45 : decode b_Ho_track 45 = .ok (.invokestatic 45, 3) := by decide +kernel
theorem d_Ho_track_48 : decode b_Ho_track 48 = .ok (.iload 4, 2) := by decide +kernel
theorem d_Ho_track_50 : decode b_Ho_track 50 = .ok (.iload 6, 2) := by decide +kernel
theorem d_Ho_track_52 : decode b_Ho_track 52 = .ok (.invokestatic 45, 3) := by decide +kernel
theorem d_Ho_track_55 : decode b_Ho_track 55 = .ok (.iload_n 3, 1) := by decide +kernel
theorem d_Ho_track_56 : decode b_Ho_track 56 = .ok (.iload 5, 2) := by decide +kernel
theorem d_Ho_track_58 : decode b_Ho_track 58 = .ok (.invokestatic 51, 3) := by decide +kernel
theorem d_Ho_track_61 : decode b_Ho_track 61 = .ok (.iload 4, 2) := by decide +kernel
theorem d_Ho_track_63 : decode b_Ho_track 63 = .ok (.iload 6, 2) := by decide +kernel
theorem d_Ho_track_65 : decode b_Ho_track 65 = .ok (.invokestatic 51, 3) := by decide +kernel
theorem d_Ho_track_68 : decode b_Ho_track 68 = .ok (.invokespecial 11, 3) := by decide +kernel
theorem d_Ho_track_71 : decode b_Ho_track 71 = .ok (.astore 7, 2) := by decide +kernel
theorem d_Ho_track_73 : decode b_Ho_track 73 = .ok (.aload_n 0, 1) := by decide +kernel
theorem d_Ho_track_74 : decode b_Ho_track 74 = .ok (.new 88, 3) := by decide +kernel
theorem d_Ho_track_77 : decode b_Ho_track 77 = .ok (.dup, 1) := by decide +kernel
theorem d_Ho_track_78 : decode b_Ho_track 78 = .ok (.iconst 4, 1) := by decide +kernel
theorem d_Ho_track_79 : decode b_Ho_track 79 = .ok (.aload_n 0, 1) := by decide +kernel
theorem d_Ho_track_80 : decode b_Ho_track 80 = .ok (.getfield 18, 3) := by decide +kernel
theorem d_Ho_track_83 : decode b_Ho_track 83 = .ok (.iconst 4, 1) := by decide +kernel
theorem d_Ho_track_84 : decode b_Ho_track 84 = .ok (.iaload, 1) := by decide +kernel
theorem d_Ho_track_85 : decode b_Ho_track 85 = .ok (.aload 7, 2) := by decide +kernel
theorem d_Ho_track_87 : decode b_Ho_track 87 = .ok (.iload_n 2, 1) := by decide +kernel
theorem d_Ho_track_88 : decode b_Ho_track 88 = .ok (.iload_n 1, 1) := by decide +kernel
theorem d_Ho_track_89 : decode b_Ho_track 89 = .ok (.iconst (-1), 1) := by decide +kernel
theorem d_Ho_track_90 : decode b_Ho_track 90 = .ok (.invokespecial 90, 3) := by decide +kernel
theorem d_Ho_track_93 : decode b_Ho_track 93 = .ok (.aload_n 0, 1) := by decide +kernel
theorem d_Ho_track_94 : decode b_Ho_track 94 = .ok (.getfield 14, 3) := by decide +kernel
theorem d_Ho_track_97 : decode b_Ho_track 97 = .ok (.invokevirtual 93, 3) := by decide +kernel
theorem d_Ho_track_100 : decode b_Ho_track 100 = .ok (.ireturn, 1) := by decide +kernel
theorem d_Ho_plane_0 : decode b_Ho_plane 0 = .ok (.aload_n 0, 1) := by decide +kernel
theorem d_Ho_plane_1 : decode b_Ho_plane 1 = .ok (.iload_n 1, 1) := by decide +kernel
theorem d_Ho_plane_2 : decode b_Ho_plane 2 = .ok (.invokevirtual 97, 3) := by decide +kernel
theorem d_Ho_plane_5 : decode b_Ho_plane 5 = .ok (.aload_n 0, 1) := by decide +kernel
theorem d_Ho_plane_6 : decode b_Ho_plane 6 = .ok (.iload_n 2, 1) := by decide +kernel
theorem d_Ho_plane_7 : decode b_Ho_plane 7 = .ok (.invokevirtual 121, 3) := by decide +kernel
theorem d_Ho_plane_10 : decode b_Ho_plane 10 = .ok (.iload_n 1, 1) := by decide +kernel
theorem d_Ho_plane_11 : decode b_Ho_plane 11 = .ok (.iconst 1, 1) := by decide +kernel
theorem d_Ho_plane_12 : decode b_Ho_plane 12 = .ok (.invokestatic 101, 3) := by decide +kernel
theorem d_Ho_plane_15 : decode b_Ho_plane 15 = .ok (.aload_n 0, 1) := by decide +kernel
theorem d_Ho_plane_16 : decode b_Ho_plane 16 = .ok (.new 88, 3) := by decide +kernel
theorem d_Ho_plane_19 : decode b_Ho_plane 19 = .ok (.dup, 1) := by decide +kernel
theorem d_Ho_plane_20 : decode b_Ho_plane 20 = .ok (.iconst 5, 1) := by decide +kernel
theorem d_Ho_plane_21 : decode b_Ho_plane 21 = .ok (.aload_n 0, 1) := by decide +kernel
theorem d_Ho_plane_22 : decode b_Ho_plane 22 = .ok (.getfield 18, 3) := by decide +kernel
theorem d_Ho_plane_25 : decode b_Ho_plane 25 = .ok (.iconst 5, 1) := by decide +kernel
theorem d_Ho_plane_26 : decode b_Ho_plane 26 = .ok (.iaload, 1) := by decide +kernel
theorem d_Ho_plane_27 : decode b_Ho_plane 27 = .ok (.aload_n 0, 1) := by decide +kernel
theorem d_Ho_plane_28 : decode b_Ho_plane 28 = .ok (.getfield 14, 3) := by decide +kernel
theorem d_Ho_plane_31 : decode b_Ho_plane 31 = .ok (.iconst 0, 1) := by decide +kernel
theorem d_Ho_plane_32 : decode b_Ho_plane 32 = .ok (.iconst 0, 1) := by decide +kernel
theorem d_Ho_plane_33 : decode b_Ho_plane 33 = .ok (.invokevirtual 126, 3) := by decide +kernel
theorem d_Ho_plane_36 : decode b_Ho_plane 36 = .ok (.iload_n 2, 1) := by decide +kernel
theorem d_Ho_plane_37 : decode b_Ho_plane 37 = .ok (.iload_n 1, 1) := by decide +kernel
theorem d_Ho_plane_38 : decode b_Ho_plane 38 = .ok (.iconst (-1), 1) := by decide +kernel
theorem d_Ho_plane_39 : decode b_Ho_plane 39 = .ok (.invokespecial 90, 3) := by decide +kernel
theorem d_Ho_plane_42 : decode b_Ho_plane 42 = .ok (.aload_n 0, 1) := by decide +kernel
theorem d_Ho_plane_43 : decode b_Ho_plane 43 = .ok (.getfield 14, 3) := by decide +kernel
theorem d_Ho_plane_46 : decode b_Ho_plane 46 = .ok (.invokevirtual 93, 3) := by decide +kernel
theorem d_Ho_plane_49 : decode b_Ho_plane 49 = .ok (.ireturn, 1) := by decide +kernel
theorem d_Ho_move_0 : decode b_Ho_move 0 = .ok (.aload_n 0, 1) := by decide +kernel
theorem d_Ho_move_1 : decode b_Ho_move 1 = .ok (.iload_n 1, 1) := by decide +kernel
theorem d_Ho_move_2 : decode b_Ho_move 2 = .ok (.invokevirtual 97, 3) := by decide +kernel
theorem d_Ho_move_5 : decode b_Ho_move 5 = .ok (.iload_n 1, 1) := by decide +kernel
theorem d_Ho_move_6 : decode b_Ho_move 6 = .ok (.iconst 2, 1) := by decide +kernel
theorem d_Ho_move_7 : decode b_Ho_move 7 = .ok (.invokestatic 101, 3) := by decide +kernel
theorem d_Ho_move_10 : decode b_Ho_move 10 = .ok (.aload_n 0, 1) := by decide +kernel
theorem d_Ho_move_11 : decode b_Ho_move 11 = .ok (.iload_n 1, 1) := by decide +kernel
theorem d_Ho_move_12 : decode b_Ho_move 12 = .ok (.invokevirtual 104, 3) := by decide +kernel
theorem d_Ho_move_15 : decode b_Ho_move 15 = .ok (.astore 4, 2) := by decide +kernel
theorem d_Ho_move_17 : decode b_Ho_move 17 = .ok (.aload 4, 2) := by decide +kernel
theorem d_Ho_move_19 : decode b_Ho_move 19 = .ok (.invokestatic 108, 3) := by decide +kernel
theorem d_Ho_move_22 : decode b_Ho_move 22 = .ok (.aload_n 0, 1) := by decide +kernel
theorem d_Ho_move_23 : decode b_Ho_move 23 = .ok (.aload_n 0, 1) := by decide +kernel
theorem d_Ho_move_24 : decode b_Ho_move 24 = .ok (.aload 4, 2) := by decide +kernel
theorem d_Ho_move_26 : decode b_Ho_move 26 = .ok (.aload 4, 2) := by decide +kernel
theorem d_Ho_move_28 : decode b_Ho_move 28 = .ok (.getfield 112, 3) := by decide +kernel
theorem d_Ho_move_31 : decode b_Ho_move 31 = .ok (.iload_n 2, 1) := by decide +kernel
theorem d_Ho_move_32 : decode b_Ho_move 32 = .ok (.iload_n 3, 1) := by decide +kernel
theorem d_Ho_move_33 : decode b_Ho_move 33 = .ok (.invokevirtual 126, 3) := by decide +kernel
theorem d_Ho_move_36 : decode b_Ho_move 36 = .ok (.invokevirtual 130, 3) := by decide +kernel
theorem d_Ho_move_39 : decode b_Ho_move 39 = .ok (.putfield 41, 3) := by decide +kernel
theorem d_Ho_move_42 : decode b_Ho_move 42 = .ok (.aload_n 0, 1) := by decide +kernel
theorem d_Ho_move_43 : decode b_Ho_move 43 = .ok (.getfield 41, 3) := by decide +kernel
theorem d_Ho_move_46 : decode b_Ho_move 46 = .ok (.ifCond .ne 29, 3) := by decide +kernel
theorem d_Ho_move_49 : decode b_Ho_move 49 = .ok (.aload_n 0, 1) := by decide +kernel
theorem d_Ho_move_50 : decode b_Ho_move 50 = .ok (.aload 4, 2) := by decide +kernel
theorem d_Ho_move_52 : decode b_Ho_move 52 = .ok (.iload_n 2, 1) := by decide +kernel
theorem d_Ho_move_53 : decode b_Ho_move 53 = .ok (.aload 4, 2) := by decide +kernel
theorem d_Ho_move_55 : decode b_Ho_move 55 = .ok (.getfield 112, 3) := by decide +kernel
theorem d_Ho_move_58 : decode b_Ho_move 58 = .ok (.getfield 115, 3) := by decide +kernel
theorem d_Ho_move_61 : decode b_Ho_move 61 = .ok (.isub, 1) := by decide +kernel
theorem d_Ho_move_62 : decode b_Ho_move 62 = .ok (.iload_n 3, 1) := by decide +kernel
theorem d_Ho_move_63 : decode b_Ho_move 63 = .ok (.aload 4, 2) := by decide +kernel
theorem d_Ho_move_65 : decode b_Ho_move 65 = .ok (.getfield 112, 3) := by decide +kernel
theorem d_Ho_move_68 : decode b_Ho_move 68 = .ok (.getfield 118, 3) := by decide +kernel
theorem d_Ho_move_71 : decode b_Ho_move 71 = .ok (.isub, 1) := by decide +kernel
theorem d_Ho_move_72 : decode b_Ho_move 72 = .ok (.invokevirtual 133, 3) := by decide +kernel
theorem d_Ho_move_75 : decode b_Ho_move 75 = .ok (.aload_n 0, 1) := by decide +kernel
theorem d_Ho_move_76 : decode b_Ho_move 76 = .ok (.getfield 41, 3) := by decide +kernel
theorem d_Ho_move_79 : decode b_Ho_move 79 = .ok (.ifCond .ne 7, 3) := by decide +kernel
theorem d_Ho_move_82 : decode b_Ho_move 82 = .ok (.iconst 1, 1) := by decide +kernel
theorem d_Ho_move_83 : decode b_Ho_move 83 = .ok (.goto 4, 3) := by decide +kernel
theorem d_Ho_move_86 : decode b_Ho_move 86 = .ok (.iconst 0, 1) := by decide +kernel
theorem d_Ho_move_87 : decode b_Ho_move 87 = .ok (.ireturn, 1) := by decide +kernel
theorem d_Ho_drop_0 : decode b_Ho_drop 0 = .ok (.aload_n 0, 1) := by decide +kernel
theorem d_Ho_drop_1 : decode b_Ho_drop 1 = .ok (.iload_n 1, 1) := by decide +kernel
theorem d_Ho_drop_2 : decode b_Ho_drop 2 = .ok (.invokevirtual 97, 3) := by decide +kernel
theorem d_Ho_drop_5 : decode b_Ho_drop 5 = .ok (.aload_n 0, 1) := by decide +kernel
theorem d_Ho_drop_6 : decode b_Ho_drop 6 = .ok (.iload_n 1, 1) := by decide +kernel
theorem d_Ho_drop_7 : decode b_Ho_drop 7 = .ok (.invokevirtual 104, 3) := by decide +kernel
theorem d_Ho_drop_10 : decode b_Ho_drop 10 = .ok (.astore_n 2, 1) := by decide +kernel
theorem d_Ho_drop_11 : decode b_Ho_drop 11 = .ok (.aload_n 2, 1) := by decide +kernel
theorem d_Ho_drop_12 : decode b_Ho_drop 12 = .ok (.invokestatic 108, 3) := by decide +kernel
theorem d_Ho_drop_15 : decode b_Ho_drop 15 = .ok (.aload_n 0, 1) := by decide +kernel
theorem d_Ho_drop_16 : decode b_Ho_drop 16 = .ok (.aload_n 0, 1) := by decide +kernel
theorem d_Ho_drop_17 : decode b_Ho_drop 17 = .ok (.aload_n 2, 1) := by decide +kernel
theorem d_Ho_drop_18 : decode b_Ho_drop 18 = .ok (.getfield 112, 3) := by decide +kernel
theorem d_Ho_drop_21 : decode b_Ho_drop 21 = .ok (.invokevirtual 137, 3) := by decide +kernel
theorem d_Ho_drop_24 : decode b_Ho_drop 24 = .ok (.ifCond .eq 7, 3) := by decide +kernel
theorem d_Ho_drop_27 : decode b_Ho_drop 27 = .ok (.iconst 3, 1) := by decide +kernel
theorem d_Ho_drop_28 : decode b_Ho_drop 28 = .ok (.goto 4, 3) := by decide +kernel
theorem d_Ho_drop_31 : decode b_Ho_drop 31 = .ok (.iconst 0, 1) := by decide +kernel
theorem d_Ho_drop_32 : decode b_Ho_drop 32 = .ok (.putfield 41, 3) := by decide +kernel
theorem d_Ho_drop_35 : decode b_Ho_drop 35 = .ok (.aload_n 0, 1) := by decide +kernel
theorem d_Ho_drop_36 : decode b_Ho_drop 36 = .ok (.getfield 41, 3) := by decide +kernel
theorem d_Ho_drop_39 : decode b_Ho_drop 39 = .ok (.ifCond .ne 8, 3) := by decide +kernel
theorem d_Ho_drop_42 : decode b_Ho_drop 42 = .ok (.aload_n 0, 1) := by decide +kernel
theorem d_Ho_drop_43 : decode b_Ho_drop 43 = .ok (.aload_n 2, 1) := by decide +kernel
theorem d_Ho_drop_44 : decode b_Ho_drop 44 = .ok (.invokevirtual 141, 3) := by decide +kernel
theorem d_Ho_drop_47 : decode b_Ho_drop 47 = .ok (.aload_n 0, 1) := by decide +kernel
theorem d_Ho_drop_48 : decode b_Ho_drop 48 = .ok (.getfield 41, 3) := by decide +kernel
theorem d_Ho_drop_51 : decode b_Ho_drop 51 = .ok (.ifCond .ne 7, 3) := by decide +kernel
theorem d_Ho_drop_54 : decode b_Ho_drop 54 = .ok (.iconst 1, 1) := by decide +kernel
theorem d_Ho_drop_55 : decode b_Ho_drop 55 = .ok (.goto 4, 3) := by decide +kernel
theorem d_Ho_drop_58 : decode b_Ho_drop 58 = .ok (.iconst 0, 1) := by decide +kernel
theorem d_Ho_drop_59 : decode b_Ho_drop 59 = .ok (.ireturn, 1) := by decide +kernel
theorem d_Ho_gap_0 : decode b_Ho_gap 0 = .ok (.iload_n 1, 1) := by decide +kernel
theorem d_Ho_gap_1 : decode b_Ho_gap 1 = .ok (.ifCond .lt 8, 3) := by decide +kernel
theorem d_Ho_gap_4 : decode b_Ho_gap 4 = .ok (.iload_n 1, 1) := by decide +kernel
theorem d_Ho_gap_5 : decode b_Ho_gap 5 = .ok (.iconst 4, 1) := by decide +kernel
theorem d_Ho_gap_6 : decode b_Ho_gap 6 = .ok (.if_icmp .le 13, 3) := by decide +kernel
theorem d_Ho_gap_9 : decode b_Ho_gap 9 = .ok (.new 79, 3) := by decide +kernel
theorem d_Ho_gap_12 : decode b_Ho_gap 12 = .ok (.dup, 1) := by decide +kernel
theorem d_Ho_gap_13 : decode b_Ho_gap 13 = .ok (.ldc 144, 2) := by decide +kernel
theorem d_Ho_gap_15 : decode b_Ho_gap 15 = .ok (.invokespecial 83, 3) := by decide +kernel
theorem d_Ho_gap_18 : decode b_Ho_gap 18 = .ok (.athrow, 1) := by decide +kernel
theorem d_Ho_gap_19 : decode b_Ho_gap 19 = .ok (.aload_n 0, 1) := by decide +kernel
theorem d_Ho_gap_20 : decode b_Ho_gap 20 = .ok (.getfield 62, 3) := by decide +kernel
theorem d_Ho_gap_23 : decode b_Ho_gap 23 = .ok (.getfield 146, 3) := by decide +kernel
theorem d_Ho_gap_26 : decode b_Ho_gap 26 = .ok (.istore_n 2, 1) := by decide +kernel
theorem d_Ho_gap_27 : decode b_Ho_gap 27 = .ok (.aload_n 0, 1) := by decide +kernel
theorem d_Ho_gap_28 : decode b_Ho_gap 28 = .ok (.getfield 62, 3) := by decide +kernel
theorem d_Ho_gap_31 : decode b_Ho_gap 31 = .ok (.iload_n 1, 1) := by decide +kernel
theorem d_Ho_gap_32 : decode b_Ho_gap 32 = .ok (.putfield 146, 3) := by decide +kernel
theorem d_Ho_gap_35 : decode b_Ho_gap 35 = .ok (.iload_n 2, 1) := by decide +kernel
theorem d_Ho_gap_36 : decode b_Ho_gap 36 = .ok (.ireturn, 1) := by decide +kernel
theorem d_Ho_islands_0 : decode b_Ho_islands 0 = .ok (.aload_n 0, 1) := by decide +kernel
theorem d_Ho_islands_1 : decode b_Ho_islands 1 = .ok (.iload_n 1, 1) := by decide +kernel
theorem d_Ho_islands_2 : decode b_Ho_islands 2 = .ok (.invokevirtual 97, 3) := by decide +kernel
theorem d_Ho_islands_5 : decode b_Ho_islands 5 = .ok (.iload_n 1, 1) := by decide +kernel
theorem d_Ho_islands_6 : decode b_Ho_islands 6 = .ok (.iconst 1, 1) := by decide +kernel
theorem d_Ho_islands_7 : decode b_Ho_islands 7 = .ok (.invokestatic 101, 3) := by decide +kernel
theorem d_Ho_islands_10 : decode b_Ho_islands 10 = .ok (.aload_n 0, 1) := by decide +kernel
theorem d_Ho_islands_11 : decode b_Ho_islands 11 = .ok (.getfield 62, 3) := by decide +kernel
theorem d_Ho_islands_14 : decode b_Ho_islands 14 = .ok (.iload_n 1, 1) := by decide +kernel
theorem d_Ho_islands_15 : decode b_Ho_islands 15 = .ok (.invokevirtual 149, 3) := by decide +kernel
theorem d_Ho_islands_18 : decode b_Ho_islands 18 = .ok (.ireturn, 1) := by decide +kernel
theorem d_Ho_check_0 : decode b_Ho_check 0 = .ok (.iconst 0, 1) := by decide +kernel
theorem d_Ho_check_1 : decode b_Ho_check 1 = .ok (.istore_n 1, 1) := by decide +kernel
theorem d_Ho_check_2 : decode b_Ho_check 2 = .ok (.bipush 20, 2) := by decide +kernel
theorem d_Ho_check_4 : decode b_Ho_check 4 = .ok (.istore_n 2, 1) := by decide +kernel
theorem d_Ho_check_5 : decode b_Ho_check 5 = .ok (.iload_n 2, 1) := by decide +kernel
theorem d_Ho_check_6 : decode b_Ho_check 6 = .ok (.sipush 140, 3) := by decide +kernel
theorem d_Ho_check_9 : decode b_Ho_check 9 = .ok (.if_icmp .ge 20, 3) := by decide +kernel
theorem d_Ho_check_12 : decode b_Ho_check 12 = .ok (.iload_n 1, 1) := by decide +kernel
theorem d_Ho_check_13 : decode b_Ho_check 13 = .ok (.aload_n 0, 1) := by decide +kernel
theorem d_Ho_check_14 : decode b_Ho_check 14 = .ok (.getfield 62, 3) := by decide +kernel
theorem d_Ho_check_17 : decode b_Ho_check 17 = .ok (.iload_n 2, 1) := by decide +kernel
theorem d_Ho_check_18 : decode b_Ho_check 18 = .ok (.invokevirtual 152, 3) := by decide +kernel
theorem d_Ho_check_21 : decode b_Ho_check 21 = .ok (.iadd, 1) := by decide +kernel
theorem d_Ho_check_22 : decode b_Ho_check 22 = .ok (.istore_n 1, 1) := by decide +kernel
theorem d_Ho_check_23 : decode b_Ho_check 23 = .ok (.iinc 2 1, 3) := by decide +kernel
theorem d_Ho_check_26 : decode b_Ho_check 26 = .ok (.goto (-21), 3) := by decide +kernel
theorem d_Ho_check_29 : decode b_Ho_check 29 = .ok (.iload_n 1, 1) := by decide +kernel
theorem d_Ho_check_30 : decode b_Ho_check 30 = .ok (.ireturn, 1) := by decide +kernel
theorem d_Ho_near_0 : decode b_Ho_near 0 = .ok (.iload_n 2, 1) := by decide +kernel
theorem d_Ho_near_1 : decode b_Ho_near 1 = .ok (.ifCond .eq 18, 3) := by decide +kernel
theorem d_Ho_near_4 : decode b_Ho_near 4 = .ok (.iload_n 2, 1) := by decide +kernel
theorem d_Ho_near_5 : decode b_Ho_near 5 = .ok (.iconst 1, 1) := by decide +kernel
theorem d_Ho_near_6 : decode b_Ho_near 6 = .ok (.if_icmp .eq 13, 3) := by decide +kernel
theorem d_Ho_near_9 : decode b_Ho_near 9 = .ok (.new 155, 3) := by decide +kernel
theorem d_Ho_near_12 : decode b_Ho_near 12 = .ok (.dup, 1) := by decide +kernel
theorem d_Ho_near_13 : decode b_Ho_near 13 = .ok (.ldc 157, 2) := by decide +kernel
theorem d_Ho_near_15 : decode b_Ho_near 15 = .ok (.invokespecial 159, 3) := by decide +kernel
theorem d_Ho_near_18 : decode b_Ho_near 18 = .ok (.athrow, 1) := by decide +kernel
theorem d_Ho_near_19 : decode b_Ho_near 19 = .ok (.iload_n 1, 1) := by decide +kernel
theorem d_Ho_near_20 : decode b_Ho_near 20 = .ok (.istore_n 3, 1) := by decide +kernel
theorem d_Ho_near_21 : decode b_Ho_near 21 = .ok (.bipush 20, 2) := by decide +kernel
theorem d_Ho_near_23 : decode b_Ho_near 23 = .ok (.istore 4, 2) := by decide +kernel
theorem d_Ho_near_25 : decode b_Ho_near 25 = .ok (.iload 4, 2) := by decide +kernel
theorem d_Ho_near_27 : decode b_Ho_near 27 = .ok (.sipush 140, 3) := by decide +kernel
theorem d_Ho_near_30 : decode b_Ho_near 30 = .ok (.if_icmp .ge 62, 3) := by decide +kernel
theorem d_Ho_near_33 : decode b_Ho_near 33 = .ok (.iload_n 3, 1) := by decide +kernel
theorem d_Ho_near_34 : decode b_Ho_near 34 = .ok (.ifCond .lt 58, 3) := by decide +kernel
theorem d_Ho_near_37 : decode b_Ho_near 37 = .ok (.aload_n 0, 1) := by decide +kernel
theorem d_Ho_near_38 : decode b_Ho_near 38 = .ok (.getfield 62, 3) := by decide +kernel
theorem d_Ho_near_41 : decode b_Ho_near 41 = .ok (.iload 4, 2) := by decide +kernel
theorem d_Ho_near_43 : decode b_Ho_near 43 = .ok (.invokevirtual 152, 3) := by decide +kernel
theorem d_Ho_near_46 : decode b_Ho_near 46 = .ok (.istore 5, 2) := by decide +kernel
theorem d_Ho_near_48 : decode b_Ho_near 48 = .ok (.iload_n 3, 1) := by decide +kernel
theorem d_Ho_near_49 : decode b_Ho_near 49 = .ok (.iload 5, 2) := by decide +kernel
theorem d_Ho_near_51 : decode b_Ho_near 51 = .ok (.if_icmp .ge 30, 3) := by decide +kernel
theorem d_Ho_near_54 : decode b_Ho_near 54 = .ok (.iload_n 2, 1) := by decide +kernel
theorem d_Ho_near_55 : decode b_Ho_near 55 = .ok (.ifCond .ne 15, 3) := by decide +kernel
theorem d_Ho_near_58 : decode b_Ho_near 58 = .ok (.aload_n 0, 1) := by decide +kernel
theorem d_Ho_near_59 : decode b_Ho_near 59 = .ok (.getfield 62, 3) := by decide +kernel
theorem d_Ho_near_62 : decode b_Ho_near 62 = .ok (.iload 4, 2) := by decide +kernel
theorem d_Ho_near_64 : decode b_Ho_near 64 = .ok (.invokevirtual 160, 3) := by decide +kernel
theorem d_Ho_near_67 : decode b_Ho_near 67 = .ok (.goto 13, 3) := by decide +kernel
theorem d_Ho_near_70 : decode b_Ho_near 70 = .ok (.aload_n 0, 1) := by decide +kernel
theorem d_Ho_near_71 : decode b_Ho_near 71 = .ok (.getfield 62, 3) := by decide +kernel
theorem d_Ho_near_74 : decode b_Ho_near 74 = .ok (.iload 4, 2) := by decide +kernel
theorem d_Ho_near_76 : decode b_Ho_near 76 = .ok (.iload_n 3, 1) := by decide +kernel
theorem d_Ho_near_77 : decode b_Ho_near 77 = .ok (.invokevirtual 163, 3) := by decide +kernel
theorem d_Ho_near_80 : decode b_Ho_near 80 = .ok (.ireturn, 1) := by decide +kernel
theorem d_Ho_near_81 : decode b_Ho_near 81 = .ok (.iload_n 3, 1) := by decide +kernel
theorem d_Ho_near_82 : decode b_Ho_near 82 = .ok (.iload 5, 2) := by decide +kernel
theorem d_Ho_near_84 : decode b_Ho_near 84 = .ok (.isub, 1) := by decide +kernel
theorem d_Ho_near_85 : decode b_Ho_near 85 = .ok (.istore_n 3, 1) := by decide +kernel
theorem d_Ho_near_86 : decode b_Ho_near 86 = .ok (.iinc 4 1, 3) := by decide +kernel
theorem d_Ho_near_89 : decode b_Ho_near 89 = .ok (.goto (-64), 3) := by decide +kernel
theorem d_Ho_near_92 : decode b_Ho_near 92 = .ok (.iconst (-1), 1) := by decide +kernel
theorem d_Ho_near_93 : decode b_Ho_near 93 = .ok (.ireturn, 1) := by decide +kernel
theorem d_Ho_filled_0 : decode b_Ho_filled 0 = .ok (.aload_n 0, 1) := by decide +kernel
theorem d_Ho_filled_1 : decode b_Ho_filled 1 = .ok (.iload_n 1, 1) := by decide +kernel
theorem d_Ho_filled_2 : decode b_Ho_filled 2 = .ok (.invokevirtual 97, 3) := by decide +kernel
theorem d_Ho_filled_5 : decode b_Ho_filled 5 = .ok (.iload_n 1, 1) := by decide +kernel
theorem d_Ho_filled_6 : decode b_Ho_filled 6 = .ok (.iconst 5, 1) := by decide +kernel
theorem d_Ho_filled_7 : decode b_Ho_filled 7 = .ok (.invokestatic 101, 3) := by decide +kernel
theorem d_Ho_filled_10 : decode b_Ho_filled 10 = .ok (.aload_n 0, 1) := by decide +kernel
theorem d_Ho_filled_11 : decode b_Ho_filled 11 = .ok (.iload_n 1, 1) := by decide +kernel
theorem d_Ho_filled_12 : decode b_Ho_filled 12 = .ok (.invokevirtual 104, 3) := by decide +kernel
theorem d_Ho_filled_15 : decode b_Ho_filled 15 = .ok (.astore_n 2, 1) := by decide +kernel
theorem d_Ho_filled_16 : decode b_Ho_filled 16 = .ok (.aload_n 2, 1) := by decide +kernel
theorem d_Ho_filled_17 : decode b_Ho_filled 17 = .ok (.invokestatic 108, 3) := by decide +kernel
theorem d_Ho_filled_20 : decode b_Ho_filled 20 = .ok (.aload_n 0, 1) := by decide +kernel
theorem d_Ho_filled_21 : decode b_Ho_filled 21 = .ok (.getfield 62, 3) := by decide +kernel
theorem d_Ho_filled_24 : decode b_Ho_filled 24 = .ok (.aload_n 2, 1) := by decide +kernel
theorem d_Ho_filled_25 : decode b_Ho_filled 25 = .ok (.invokevirtual 166, 3) := by decide +kernel
theorem d_Ho_filled_28 : decode b_Ho_filled 28 = .ok (.ireturn, 1) := by decide +kernel
theorem d_Ho_at_0 : decode b_Ho_at 0 = .ok (.aload_n 0, 1) := by decide +kernel
theorem d_Ho_at_1 : decode b_Ho_at 1 = .ok (.iload_n 1, 1) := by decide +kernel
theorem d_Ho_at_2 : decode b_Ho_at 2 = .ok (.invokevirtual 97, 3) := by decide +kernel
theorem d_Ho_at_5 : decode b_Ho_at 5 = .ok (.iload_n 2, 1) := by decide +kernel
theorem d_Ho_at_6 : decode b_Ho_at 6 = .ok (.ifCond .lt 8, 3) := by decide +kernel
theorem d_Ho_at_9 : decode b_Ho_at 9 = .ok (.iload_n 2, 1) := by decide +kernel
theorem d_Ho_at_10 : decode b_Ho_at 10 = .ok (.iconst 5, 1) := by decide +kernel
theorem d_Ho_at_11 : decode b_Ho_at 11 = .ok (.if_icmp .le 13, 3) := by decide +kernel
theorem d_Ho_at_14 : decode b_Ho_at 14 = .ok (.new 155, 3) := by decide +kernel
theorem d_Ho_at_17 : decode b_Ho_at 17 = .ok (.dup, 1) := by decide +kernel
theorem d_Ho_at_18 : decode b_Ho_at 18 = .ok (.ldc 170, 2) := by decide +kernel
theorem d_Ho_at_20 : decode b_Ho_at 20 = .ok (.invokespecial 159, 3) := by decide +kernel
theorem d_Ho_at_23 : decode b_Ho_at 23 = .ok (.athrow, 1) := by decide +kernel
theorem d_Ho_at_24 : decode b_Ho_at 24 = .ok (.aload_n 0, 1) := by decide +kernel
theorem d_Ho_at_25 : decode b_Ho_at 25 = .ok (.iload_n 1, 1) := by decide +kernel
theorem d_Ho_at_26 : decode b_Ho_at 26 = .ok (.invokevirtual 104, 3) := by decide +kernel
theorem d_Ho_at_29 : decode b_Ho_at 29 = .ok (.astore_n 3, 1) := by decide +kernel
theorem d_Ho_at_30 : decode b_Ho_at 30 = .ok (.iload_n 2, 1) := by decide +kernel
theorem d_Ho_at_31 : decode b_Ho_at 31 = .ok (.tableswitch 72 0 4 #[33, 46, 54, 62, 67], 33) := by decide +kernel
theorem d_Ho_at_64 : decode b_Ho_at 64 = .ok (.aload_n 3, 1) := by decide +kernel
theorem d_Ho_at_65 : decode b_Ho_at 65 = .ok (.getfield 172, 3) := by decide +kernel
theorem d_Ho_at_68 : decode b_Ho_at 68 = .ok (.ifCond .eq 7, 3) := by decide +kernel
theorem d_Ho_at_71 : decode b_Ho_at 71 = .ok (.iconst 1, 1) := by decide +kernel
theorem d_Ho_at_72 : decode b_Ho_at 72 = .ok (.goto 4, 3) := by decide +kernel
theorem d_Ho_at_75 : decode b_Ho_at 75 = .ok (.iconst 0, 1) := by decide +kernel
theorem d_Ho_at_76 : decode b_Ho_at 76 = .ok (.ireturn, 1) := by decide +kernel
theorem d_Ho_at_77 : decode b_Ho_at 77 = .ok (.aload_n 3, 1) := by decide +kernel
theorem d_Ho_at_78 : decode b_Ho_at 78 = .ok (.getfield 112, 3) := by decide +kernel
theorem d_Ho_at_81 : decode b_Ho_at 81 = .ok (.getfield 115, 3) := by decide +kernel
theorem d_Ho_at_84 : decode b_Ho_at 84 = .ok (.ireturn, 1) := by decide +kernel
theorem d_Ho_at_85 : decode b_Ho_at 85 = .ok (.aload_n 3, 1) := by decide +kernel
theorem d_Ho_at_86 : decode b_Ho_at 86 = .ok (.getfield 112, 3) := by decide +kernel
theorem d_Ho_at_89 : decode b_Ho_at 89 = .ok (.getfield 118, 3) := by decide +kernel
theorem d_Ho_at_92 : decode b_Ho_at 92 = .ok (.ireturn, 1) := by decide +kernel
theorem d_Ho_at_93 : decode b_Ho_at 93 = .ok (.aload_n 3, 1) := by decide +kernel
theorem d_Ho_at_94 : decode b_Ho_at 94 = .ok (.getfield 176, 3) := by decide +kernel
theorem d_Ho_at_97 : decode b_Ho_at 97 = .ok (.ireturn, 1) := by decide +kernel
theorem d_Ho_at_98 : decode b_Ho_at 98 = .ok (.aload_n 3, 1) := by decide +kernel
theorem d_Ho_at_99 : decode b_Ho_at 99 = .ok (.getfield 179, 3) := by decide +kernel
theorem d_Ho_at_102 : decode b_Ho_at 102 = .ok (.ireturn, 1) := by decide +kernel
theorem d_Ho_at_103 : decode b_Ho_at 103 = .ok (.aload_n 3, 1) := by decide +kernel
theorem d_Ho_at_104 : decode b_Ho_at 104 = .ok (.getfield 182, 3) := by decide +kernel
theorem d_Ho_at_107 : decode b_Ho_at 107 = .ok (.ireturn, 1) := by decide +kernel
theorem d_Ho_count_0 : decode b_Ho_count 0 = .ok (.iload_n 1, 1) := by decide +kernel
theorem d_Ho_count_1 : decode b_Ho_count 1 = .ok (.iconst 2, 1) := by decide +kernel
theorem d_Ho_count_2 : decode b_Ho_count 2 = .ok (.if_icmp .lt 8, 3) := by decide +kernel
theorem d_Ho_count_5 : decode b_Ho_count 5 = .ok (.iload_n 1, 1) := by decide +kernel
theorem d_Ho_count_6 : decode b_Ho_count 6 = .ok (.iconst 5, 1) := by decide +kernel
theorem d_Ho_count_7 : decode b_Ho_count 7 = .ok (.if_icmp .le 13, 3) := by decide +kernel
theorem d_Ho_count_10 : decode b_Ho_count 10 = .ok (.new 155, 3) := by decide +kernel
theorem d_Ho_count_13 : decode b_Ho_count 13 = .ok (.dup, 1) := by decide +kernel
theorem d_Ho_count_14 : decode b_Ho_count 14 = .ok (.ldc 185, 2) := by decide +kernel
theorem d_Ho_count_16 : decode b_Ho_count 16 = .ok (.invokespecial 159, 3) := by decide +kernel
theorem d_Ho_count_19 : decode b_Ho_count 19 = .ok (.athrow, 1) := by decide +kernel
theorem d_Ho_count_20 : decode b_Ho_count 20 = .ok (.iconst 0, 1) := by decide +kernel
theorem d_Ho_count_21 : decode b_Ho_count 21 = .ok (.istore_n 2, 1) := by decide +kernel
theorem d_Ho_count_22 : decode b_Ho_count 22 = .ok (.aload_n 0, 1) := by decide +kernel
theorem d_Ho_count_23 : decode b_Ho_count 23 = .ok (.getfield 70, 3) := by decide +kernel
theorem d_Ho_count_26 : decode b_Ho_count 26 = .ok (.astore_n 3, 1) := by decide +kernel
theorem d_Ho_count_27 : decode b_Ho_count 27 = .ok (.aload_n 3, 1) := by decide +kernel
theorem d_Ho_count_28 : decode b_Ho_count 28 = .ok (.arraylength, 1) := by decide +kernel
theorem d_Ho_count_29 : decode b_Ho_count 29 = .ok (.istore 4, 2) := by decide +kernel
theorem d_Ho_count_31 : decode b_Ho_count 31 = .ok (.iconst 0, 1) := by decide +kernel
theorem d_Ho_count_32 : decode b_Ho_count 32 = .ok (.istore 5, 2) := by decide +kernel
theorem d_Ho_count_34 : decode b_Ho_count 34 = .ok (.iload 5, 2) := by decide +kernel
theorem d_Ho_count_36 : decode b_Ho_count 36 = .ok (.iload 4, 2) := by decide +kernel
theorem d_Ho_count_38 : decode b_Ho_count 38 = .ok (.if_icmp .ge 40, 3) := by decide +kernel
theorem d_Ho_count_41 : decode b_Ho_count 41 = .ok (.aload_n 3, 1) := by decide +kernel
theorem d_Ho_count_42 : decode b_Ho_count 42 = .ok (.iload 5, 2) := by decide +kernel
theorem d_Ho_count_44 : decode b_Ho_count 44 = .ok (.aaload, 1) := by decide +kernel
theorem d_Ho_count_45 : decode b_Ho_count 45 = .ok (.astore 6, 2) := by decide +kernel
theorem d_Ho_count_47 : decode b_Ho_count 47 = .ok (.aload 6, 2) := by decide +kernel
theorem d_Ho_count_49 : decode b_Ho_count 49 = .ok (.ifnull 23, 3) := by decide +kernel
theorem d_Ho_count_52 : decode b_Ho_count 52 = .ok (.aload 6, 2) := by decide +kernel
theorem d_Ho_count_54 : decode b_Ho_count 54 = .ok (.getfield 172, 3) := by decide +kernel
theorem d_Ho_count_57 : decode b_Ho_count 57 = .ok (.ifCond .eq 15, 3) := by decide +kernel
theorem d_Ho_count_60 : decode b_Ho_count 60 = .ok (.aload 6, 2) := by decide +kernel
theorem d_Ho_count_62 : decode b_Ho_count 62 = .ok (.getfield 187, 3) := by decide +kernel
theorem d_Ho_count_65 : decode b_Ho_count 65 = .ok (.iload_n 1, 1) := by decide +kernel
theorem d_Ho_count_66 : decode b_Ho_count 66 = .ok (.if_icmp .ne 6, 3) := by decide +kernel
theorem d_Ho_count_69 : decode b_Ho_count 69 = .ok (.iinc 2 1, 3) := by decide +kernel
theorem d_Ho_count_72 : decode b_Ho_count 72 = .ok (.iinc 5 1, 3) := by decide +kernel
theorem d_Ho_count_75 : decode b_Ho_count 75 = .ok (.goto (-41), 3) := by decide +kernel
theorem d_Ho_count_78 : decode b_Ho_count 78 = .ok (.iload_n 2, 1) := by decide +kernel
theorem d_Ho_count_79 : decode b_Ho_count 79 = .ok (.ireturn, 1) := by decide +kernel
theorem d_Ho_begin_0 : decode b_Ho_begin 0 = .ok (.new 9, 3) := by decide +kernel
theorem d_Ho_begin_3 : decode b_Ho_begin 3 = .ok (.dup, 1) := by decide +kernel
theorem d_Ho_begin_4 : decode b_Ho_begin 4 = .ok (.iload_n 1, 1) := by decide +kernel
theorem d_Ho_begin_5 : decode b_Ho_begin 5 = .ok (.iload_n 2, 1) := by decide +kernel
theorem d_Ho_begin_6 : decode b_Ho_begin 6 = .ok (.iload_n 3, 1) := by decide +kernel
theorem d_Ho_begin_7 : decode b_Ho_begin 7 = .ok (.iload 4, 2) := by decide +kernel
theorem d_Ho_begin_9 : decode b_Ho_begin 9 = .ok (.invokespecial 11, 3) := by decide +kernel
theorem d_Ho_begin_12 : decode b_Ho_begin 12 = .ok (.astore 5, 2) := by decide +kernel
theorem d_Ho_begin_14 : decode b_Ho_begin 14 = .ok (.aload_n 0, 1) := by decide +kernel
theorem d_Ho_begin_15 : decode b_Ho_begin 15 = .ok (.aload_n 0, 1) := by decide +kernel
theorem d_Ho_begin_16 : decode b_Ho_begin 16 = .ok (.aload 5, 2) := by decide +kernel
theorem d_Ho_begin_18 : decode b_Ho_begin 18 = .ok (.invokevirtual 190, 3) := by decide +kernel
theorem d_Ho_begin_21 : decode b_Ho_begin 21 = .ok (.putfield 41, 3) := by decide +kernel
theorem d_Ho_begin_24 : decode b_Ho_begin 24 = .ok (.aload_n 0, 1) := by decide +kernel
theorem d_Ho_begin_25 : decode b_Ho_begin 25 = .ok (.getfield 41, 3) := by decide +kernel
theorem d_Ho_begin_28 : decode b_Ho_begin 28 = .ok (.ifCond .eq 5, 3) := by decide +kernel
theorem d_Ho_begin_31 : decode b_Ho_begin 31 = .ok (.iconst (-1), 1) := by decide +kernel
theorem d_Ho_begin_32 : decode b_Ho_begin 32 = .ok (.ireturn, 1) := by decide +kernel
theorem d_Ho_begin_33 : decode b_Ho_begin 33 = .ok (.aload_n 0, 1) := by decide +kernel
theorem d_Ho_begin_34 : decode b_Ho_begin 34 = .ok (.getfield 27, 3) := by decide +kernel
theorem d_Ho_begin_37 : decode b_Ho_begin 37 = .ok (.aload_n 0, 1) := by decide +kernel
theorem d_Ho_begin_38 : decode b_Ho_begin 38 = .ok (.getfield 18, 3) := by decide +kernel
theorem d_Ho_begin_41 : decode b_Ho_begin 41 = .ok (.bipush 6, 2) := by decide +kernel
theorem d_Ho_begin_43 : decode b_Ho_begin 43 = .ok (.iaload, 1) := by decide +kernel
theorem d_Ho_begin_44 : decode b_Ho_begin 44 = .ok (.new 25, 3) := by decide +kernel
theorem d_Ho_begin_47 : decode b_Ho_begin 47 = .ok (.dup, 1) := by decide +kernel
theorem d_Ho_begin_48 : decode b_Ho_begin 48 = .ok (.aload 5, 2) := by decide +kernel
theorem d_Ho_begin_50 : decode b_Ho_begin 50 = .ok (.invokespecial 194, 3) := by decide +kernel
theorem d_Ho_begin_53 : decode b_Ho_begin 53 = .ok (.aastore, 1) := by decide +kernel
theorem d_Ho_begin_54 : decode b_Ho_begin 54 = .ok (.aload_n 0, 1) := by decide +kernel
theorem d_Ho_begin_55 : decode b_Ho_begin 55 = .ok (.bipush 6, 2) := by decide +kernel
theorem d_Ho_begin_57 : decode b_Ho_begin 57 = .ok (.invokevirtual 75, 3) := by decide +kernel
theorem d_Ho_begin_60 : decode b_Ho_begin 60 = .ok (.ireturn, 1) := by decide +kernel
theorem d_Ho_work_0 : decode b_Ho_work 0 = .ok (.iload_n 1, 1) := by decide +kernel
theorem d_Ho_work_1 : decode b_Ho_work 1 = .ok (.ifCond .ne 7, 3) := by decide +kernel
theorem d_Ho_work_4 : decode b_Ho_work 4 = .ok (.aconst_null, 1) := by decide +kernel
theorem d_Ho_work_5 : decode b_Ho_work 5 = .ok (.goto 8, 3) := by decide +kernel
theorem d_Ho_work_8 : decode b_Ho_work 8 = .ok (.aload_n 0, 1) := by decide +kernel
theorem d_Ho_work_9 : decode b_Ho_work 9 = .ok (.iload_n 1, 1) := by decide +kernel
theorem d_Ho_work_10 : decode b_Ho_work 10 = .ok (.invokevirtual 197, 3) := by decide +kernel
theorem d_Ho_work_13 : decode b_Ho_work 13 = .ok (.astore_n 2, 1) := by decide +kernel
theorem d_Ho_work_14 : decode b_Ho_work 14 = .ok (.aload_n 2, 1) := by decide +kernel
theorem d_Ho_work_15 : decode b_Ho_work 15 = .ok (.aload_n 0, 1) := by decide +kernel
theorem d_Ho_work_16 : decode b_Ho_work 16 = .ok (.getfield 37, 3) := by decide +kernel
theorem d_Ho_work_19 : decode b_Ho_work 19 = .ok (.if_acmp .eq 7, 3) := by decide +kernel
theorem d_Ho_work_22 : decode b_Ho_work 22 = .ok (.iconst 1, 1) := by decide +kernel
theorem d_Ho_work_23 : decode b_Ho_work 23 = .ok (.goto 4, 3) := by decide +kernel
theorem d_Ho_work_26 : decode b_Ho_work 26 = .ok (.iconst 0, 1) := by decide +kernel
theorem d_Ho_work_27 : decode b_Ho_work 27 = .ok (.istore_n 3, 1) := by decide +kernel
theorem d_Ho_work_28 : decode b_Ho_work 28 = .ok (.aload_n 0, 1) := by decide +kernel
theorem d_Ho_work_29 : decode b_Ho_work 29 = .ok (.aload_n 2, 1) := by decide +kernel
theorem d_Ho_work_30 : decode b_Ho_work 30 = .ok (.putfield 37, 3) := by decide +kernel
theorem d_Ho_work_33 : decode b_Ho_work 33 = .ok (.iload_n 3, 1) := by decide +kernel
theorem d_Ho_work_34 : decode b_Ho_work 34 = .ok (.ireturn, 1) := by decide +kernel
theorem d_Ho_end_0 : decode b_Ho_end 0 = .ok (.aload_n 0, 1) := by decide +kernel
theorem d_Ho_end_1 : decode b_Ho_end 1 = .ok (.iload_n 1, 1) := by decide +kernel
theorem d_Ho_end_2 : decode b_Ho_end 2 = .ok (.invokevirtual 197, 3) := by decide +kernel
theorem d_Ho_end_5 : decode b_Ho_end 5 = .ok (.astore_n 3, 1) := by decide +kernel
theorem d_Ho_end_6 : decode b_Ho_end 6 = .ok (.iload_n 2, 1) := by decide +kernel
theorem d_Ho_end_7 : decode b_Ho_end 7 = .ok (.ifCond .ne 14, 3) := by decide +kernel
theorem d_Ho_end_10 : decode b_Ho_end 10 = .ok (.aload_n 3, 1) := by decide +kernel
theorem d_Ho_end_11 : decode b_Ho_end 11 = .ok (.getfield 201, 3) := by decide +kernel
theorem d_Ho_end_14 : decode b_Ho_end 14 = .ok (.aload_n 0, 1) := by decide +kernel
theorem d_Ho_end_15 : decode b_Ho_end 15 = .ok (.getfield 70, 3) := by decide +kernel
theorem d_Ho_end_18 : decode b_Ho_end 18 = .ok (.invokevirtual 205, 3) := by decide +kernel
theorem d_Ho_end_21 : decode b_Ho_end 21 = .ok (.aload_n 3, 1) := by decide +kernel
theorem d_Ho_end_22 : decode b_Ho_end 22 = .ok (.iconst 0, 1) := by decide +kernel
theorem d_Ho_end_23 : decode b_Ho_end 23 = .ok (.putfield 209, 3) := by decide +kernel
theorem d_Ho_end_26 : decode b_Ho_end 26 = .ok (.aload_n 0, 1) := by decide +kernel
theorem d_Ho_end_27 : decode b_Ho_end 27 = .ok (.getfield 37, 3) := by decide +kernel
theorem d_Ho_end_30 : decode b_Ho_end 30 = .ok (.aload_n 3, 1) := by decide +kernel
theorem d_Ho_end_31 : decode b_Ho_end 31 = .ok (.if_acmp .ne 8, 3) := by decide +kernel
theorem d_Ho_end_34 : decode b_Ho_end 34 = .ok (.aload_n 0, 1) := by decide +kernel
theorem d_Ho_end_35 : decode b_Ho_end 35 = .ok (.aconst_null, 1) := by decide +kernel
theorem d_Ho_end_36 : decode b_Ho_end 36 = .ok (.putfield 37, 3) := by decide +kernel
theorem d_Ho_end_39 : decode b_Ho_end 39 = .ok (.aload_n 3, 1) := by decide +kernel
theorem d_Ho_end_40 : decode b_Ho_end 40 = .ok (.getfield 212, 3) := by decide +kernel
theorem d_Ho_end_43 : decode b_Ho_end 43 = .ok (.ireturn, 1) := by decide +kernel
theorem d_Ho_version_0 : decode b_Ho_version 0 = .ok (.aload_n 0, 1) := by decide +kernel
theorem d_Ho_version_1 : decode b_Ho_version 1 = .ok (.invokevirtual 215, 3) := by decide +kernel
theorem d_Ho_version_4 : decode b_Ho_version 4 = .ok (.aload_n 0, 1) := by decide +kernel
theorem d_Ho_version_5 : decode b_Ho_version 5 = .ok (.aload_n 0, 1) := by decide +kernel
theorem d_Ho_version_6 : decode b_Ho_version 6 = .ok (.bipush 7, 2) := by decide +kernel
theorem d_Ho_version_8 : decode b_Ho_version 8 = .ok (.invokevirtual 71, 3) := by decide +kernel
theorem d_Ho_version_11 : decode b_Ho_version 11 = .ok (.ifCond .eq 7, 3) := by decide +kernel
theorem d_Ho_version_14 : decode b_Ho_version 14 = .ok (.iconst 1, 1) := by decide +kernel
theorem d_Ho_version_15 : decode b_Ho_version 15 = .ok (.goto 4, 3) := by decide +kernel
theorem d_Ho_version_18 : decode b_Ho_version 18 = .ok (.iconst 0, 1) := by decide +kernel
theorem d_Ho_version_19 : decode b_Ho_version 19 = .ok (.putfield 41, 3) := by decide +kernel
theorem d_Ho_version_22 : decode b_Ho_version 22 = .ok (.aload_n 0, 1) := by decide +kernel
theorem d_Ho_version_23 : decode b_Ho_version 23 = .ok (.getfield 41, 3) := by decide +kernel
theorem d_Ho_version_26 : decode b_Ho_version 26 = .ok (.ifCond .eq 5, 3) := by decide +kernel
theorem d_Ho_version_29 : decode b_Ho_version 29 = .ok (.iconst (-1), 1) := by decide +kernel
theorem d_Ho_version_30 : decode b_Ho_version 30 = .ok (.ireturn, 1) := by decide +kernel
theorem d_Ho_version_31 : decode b_Ho_version 31 = .ok (.new 31, 3) := by decide +kernel
theorem d_Ho_version_34 : decode b_Ho_version 34 = .ok (.dup, 1) := by decide +kernel
theorem d_Ho_version_35 : decode b_Ho_version 35 = .ok (.invokespecial 218, 3) := by decide +kernel
theorem d_Ho_version_38 : decode b_Ho_version 38 = .ok (.astore_n 1, 1) := by decide +kernel
theorem d_Ho_version_39 : decode b_Ho_version 39 = .ok (.aload_n 1, 1) := by decide +kernel
theorem d_Ho_version_40 : decode b_Ho_version 40 = .ok (.aload_n 0, 1) := by decide +kernel
theorem d_Ho_version_41 : decode b_Ho_version 41 = .ok (.getfield 70, 3) := by decide +kernel
theorem d_Ho_version_44 : decode b_Ho_version 44 = .ok (.invokevirtual 219, 3) := by decide +kernel
theorem d_Ho_version_47 : decode b_Ho_version 47 = .ok (.aload_n 0, 1) := by decide +kernel
theorem d_Ho_version_48 : decode b_Ho_version 48 = .ok (.getfield 33, 3) := by decide +kernel
theorem d_Ho_version_51 : decode b_Ho_version 51 = .ok (.aload_n 0, 1) := by decide +kernel
theorem d_Ho_version_52 : decode b_Ho_version 52 = .ok (.getfield 18, 3) := by decide +kernel
theorem d_Ho_version_55 : decode b_Ho_version 55 = .ok (.bipush 7, 2) := by decide +kernel
theorem d_Ho_version_57 : decode b_Ho_version 57 = .ok (.iaload, 1) := by decide +kernel
theorem d_Ho_version_58 : decode b_Ho_version 58 = .ok (.aload_n 1, 1) := by decide +kernel
theorem d_Ho_version_59 : decode b_Ho_version 59 = .ok (.aastore, 1) := by decide +kernel
theorem d_Ho_version_60 : decode b_Ho_version 60 = .ok (.aload_n 0, 1) := by decide +kernel
theorem d_Ho_version_61 : decode b_Ho_version 61 = .ok (.bipush 7, 2) := by decide +kernel
theorem d_Ho_version_63 : decode b_Ho_version 63 = .ok (.invokevirtual 75, 3) := by decide +kernel
theorem d_Ho_version_66 : decode b_Ho_version 66 = .ok (.ireturn, 1) := by decide +kernel
theorem d_Ho_back_0 : decode b_Ho_back 0 = .ok (.aload_n 0, 1) := by decide +kernel
theorem d_Ho_back_1 : decode b_Ho_back 1 = .ok (.iload_n 1, 1) := by decide +kernel
theorem d_Ho_back_2 : decode b_Ho_back 2 = .ok (.invokevirtual 97, 3) := by decide +kernel
theorem d_Ho_back_5 : decode b_Ho_back 5 = .ok (.iload_n 1, 1) := by decide +kernel
theorem d_Ho_back_6 : decode b_Ho_back 6 = .ok (.bipush 7, 2) := by decide +kernel
theorem d_Ho_back_8 : decode b_Ho_back 8 = .ok (.invokestatic 101, 3) := by decide +kernel
theorem d_Ho_back_11 : decode b_Ho_back 11 = .ok (.aload_n 0, 1) := by decide +kernel
theorem d_Ho_back_12 : decode b_Ho_back 12 = .ok (.invokevirtual 215, 3) := by decide +kernel
theorem d_Ho_back_15 : decode b_Ho_back 15 = .ok (.aload_n 0, 1) := by decide +kernel
theorem d_Ho_back_16 : decode b_Ho_back 16 = .ok (.getfield 33, 3) := by decide +kernel
theorem d_Ho_back_19 : decode b_Ho_back 19 = .ok (.iload_n 1, 1) := by decide +kernel
theorem d_Ho_back_20 : decode b_Ho_back 20 = .ok (.sipush 1000, 3) := by decide +kernel
theorem d_Ho_back_23 : decode b_Ho_back 23 = .ok (.irem, 1) := by decide +kernel
theorem d_Ho_back_24 : decode b_Ho_back 24 = .ok (.aaload, 1) := by decide +kernel
theorem d_Ho_back_25 : decode b_Ho_back 25 = .ok (.astore_n 2, 1) := by decide +kernel
theorem d_Ho_back_26 : decode b_Ho_back 26 = .ok (.aload_n 2, 1) := by decide +kernel
theorem d_Ho_back_27 : decode b_Ho_back 27 = .ok (.ifnonnull 7, 3) := by decide +kernel
theorem d_Ho_back_30 : decode b_Ho_back 30 = .ok (.iconst 0, 1) := by decide +kernel
theorem d_Ho_back_31 : decode b_Ho_back 31 = .ok (.goto 11, 3) := by decide +kernel
theorem d_Ho_back_34 : decode b_Ho_back 34 = .ok (.aload_n 2, 1) := by decide +kernel
theorem d_Ho_back_35 : decode b_Ho_back 35 = .ok (.aload_n 0, 1) := by decide +kernel
theorem d_Ho_back_36 : decode b_Ho_back 36 = .ok (.getfield 70, 3) := by decide +kernel
theorem d_Ho_back_39 : decode b_Ho_back 39 = .ok (.invokevirtual 222, 3) := by decide +kernel
theorem d_Ho_back_42 : decode b_Ho_back 42 = .ok (.ireturn, 1) := by decide +kernel
theorem d_Ho_told_0 : decode b_Ho_told 0 = .ok (.aload_n 0, 1) := by decide +kernel
theorem d_Ho_told_1 : decode b_Ho_told 1 = .ok (.getfield 41, 3) := by decide +kernel
theorem d_Ho_told_4 : decode b_Ho_told 4 = .ok (.ireturn, 1) := by decide +kernel
theorem d_Ho_demandGiven_0 : decode b_Ho_demandGiven 0 = .ok (.iload_n 1, 1) := by decide +kernel
theorem d_Ho_demandGiven_1 : decode b_Ho_demandGiven 1 = .ok (.sipush 1000, 3) := by decide +kernel
theorem d_Ho_demandGiven_4 : decode b_Ho_demandGiven 4 = .ok (.idiv, 1) := by decide +kernel
theorem d_Ho_demandGiven_5 : decode b_Ho_demandGiven 5 = .ok (.istore_n 2, 1) := by decide +kernel
theorem d_Ho_demandGiven_6 : decode b_Ho_demandGiven 6 = .ok (.iload_n 1, 1) := by decide +kernel
theorem d_Ho_demandGiven_7 : decode b_Ho_demandGiven 7 = .ok (.sipush 1000, 3) := by decide +kernel
theorem d_Ho_demandGiven_10 : decode b_Ho_demandGiven 10 = .ok (.if_icmp .lt 23, 3) := by decide +kernel
theorem d_Ho_demandGiven_13 : decode b_Ho_demandGiven 13 = .ok (.iload_n 2, 1) := by decide +kernel
theorem d_Ho_demandGiven_14 : decode b_Ho_demandGiven 14 = .ok (.bipush 7, 2) := by decide +kernel
theorem d_Ho_demandGiven_16 : decode b_Ho_demandGiven 16 = .ok (.if_icmp .gt 17, 3) := by decide +kernel
theorem d_Ho_demandGiven_19 : decode b_Ho_demandGiven 19 = .ok (.iload_n 1, 1) := by decide +kernel
theorem d_Ho_demandGiven_20 : decode b_Ho_demandGiven 20 = .ok (.sipush 1000, 3) := by decide +kernel
theorem d_Ho_demandGiven_23 : decode b_Ho_demandGiven 23 = .ok (.irem, 1) := by decide +kernel
theorem d_Ho_demandGiven_24 : decode b_Ho_demandGiven 24 = .ok (.aload_n 0, 1) := by decide +kernel
theorem d_Ho_demandGiven_25 : decode b_Ho_demandGiven 25 = .ok (.getfield 18, 3) := by decide +kernel
theorem d_Ho_demandGiven_28 : decode b_Ho_demandGiven 28 = .ok (.iload_n 2, 1) := by decide +kernel
theorem d_Ho_demandGiven_29 : decode b_Ho_demandGiven 29 = .ok (.iaload, 1) := by decide +kernel
theorem d_Ho_demandGiven_30 : decode b_Ho_demandGiven 30 = .ok (.if_icmp .lt 13, 3) := by decide +kernel
theorem d_Ho_demandGiven_33 : decode b_Ho_demandGiven 33 = .ok (.new 155, 3) := by decide +kernel
theorem d_Ho_demandGiven_36 : decode b_Ho_demandGiven 36 = .ok (.dup, 1) := by decide +kernel
theorem d_Ho_demandGiven_37 : decode b_Ho_demandGiven 37 = .ok (.ldc 226, 2) := by decide +kernel
theorem d_Ho_demandGiven_39 : decode b_Ho_demandGiven 39 = .ok (.invokespecial 159, 3) := by decide +kernel
theorem d_Ho_demandGiven_42 : decode b_Ho_demandGiven 42 = .ok (.athrow, 1) := by decide +kernel
theorem d_Ho_demandGiven_43 : decode b_Ho_demandGiven 43 = .ok (.return_, 1) := by decide +kernel
theorem d_Ho_demandKind_0 : decode b_Ho_demandKind 0 = .ok (.iload_n 0, 1) := by decide +kernel
theorem d_Ho_demandKind_1 : decode b_Ho_demandKind 1 = .ok (.sipush 1000, 3) := by decide +kernel
theorem d_Ho_demandKind_4 : decode b_Ho_demandKind 4 = .ok (.idiv, 1) := by decide +kernel
theorem d_Ho_demandKind_5 : decode b_Ho_demandKind 5 = .ok (.iload_n 1, 1) := by decide +kernel
theorem d_Ho_demandKind_6 : decode b_Ho_demandKind 6 = .ok (.if_icmp .eq 13, 3) := by decide +kernel
theorem d_Ho_demandKind_9 : decode b_Ho_demandKind 9 = .ok (.new 79, 3) := by decide +kernel
theorem d_Ho_demandKind_12 : decode b_Ho_demandKind 12 = .ok (.dup, 1) := by decide +kernel
theorem d_Ho_demandKind_13 : decode b_Ho_demandKind 13 = .ok (.ldc 228, 2) := by decide +kernel
theorem d_Ho_demandKind_15 : decode b_Ho_demandKind 15 = .ok (.invokespecial 83, 3) := by decide +kernel
theorem d_Ho_demandKind_18 : decode b_Ho_demandKind 18 = .ok (.athrow, 1) := by decide +kernel
theorem d_Ho_demandKind_19 : decode b_Ho_demandKind 19 = .ok (.return_, 1) := by decide +kernel
theorem d_Ho_demandLayer_0 : decode b_Ho_demandLayer 0 = .ok (.iload_n 1, 1) := by decide +kernel
theorem d_Ho_demandLayer_1 : decode b_Ho_demandLayer 1 = .ok (.ifCond .lt 11, 3) := by decide +kernel
theorem d_Ho_demandLayer_4 : decode b_Ho_demandLayer 4 = .ok (.iload_n 1, 1) := by decide +kernel
theorem d_Ho_demandLayer_5 : decode b_Ho_demandLayer 5 = .ok (.aload_n 0, 1) := by decide +kernel
theorem d_Ho_demandLayer_6 : decode b_Ho_demandLayer 6 = .ok (.getfield 54, 3) := by decide +kernel
theorem d_Ho_demandLayer_9 : decode b_Ho_demandLayer 9 = .ok (.if_icmp .lt 13, 3) := by decide +kernel
theorem d_Ho_demandLayer_12 : decode b_Ho_demandLayer 12 = .ok (.new 155, 3) := by decide +kernel
theorem d_Ho_demandLayer_15 : decode b_Ho_demandLayer 15 = .ok (.dup, 1) := by decide +kernel
theorem d_Ho_demandLayer_16 : decode b_Ho_demandLayer 16 = .ok (.ldc 230, 2) := by decide +kernel
theorem d_Ho_demandLayer_18 : decode b_Ho_demandLayer 18 = .ok (.invokespecial 159, 3) := by decide +kernel
theorem d_Ho_demandLayer_21 : decode b_Ho_demandLayer 21 = .ok (.athrow, 1) := by decide +kernel
theorem d_Ho_demandLayer_22 : decode b_Ho_demandLayer 22 = .ok (.return_, 1) := by decide +kernel
theorem d_Ho_demandThing_0 : decode b_Ho_demandThing 0 = .ok (.iload_n 1, 1) := by decide +kernel
theorem d_Ho_demandThing_1 : decode b_Ho_demandThing 1 = .ok (.sipush 1000, 3) := by decide +kernel
theorem d_Ho_demandThing_4 : decode b_Ho_demandThing 4 = .ok (.idiv, 1) := by decide +kernel
theorem d_Ho_demandThing_5 : decode b_Ho_demandThing 5 = .ok (.istore_n 2, 1) := by decide +kernel
theorem d_Ho_demandThing_6 : decode b_Ho_demandThing 6 = .ok (.iload_n 2, 1) := by decide +kernel
theorem d_Ho_demandThing_7 : decode b_Ho_demandThing 7 = .ok (.iconst 2, 1) := by decide +kernel
theorem d_Ho_demandThing_8 : decode b_Ho_demandThing 8 = .ok (.if_icmp .lt 8, 3) := by decide +kernel
theorem d_Ho_demandThing_11 : decode b_Ho_demandThing 11 = .ok (.iload_n 2, 1) := by decide +kernel
theorem d_Ho_demandThing_12 : decode b_Ho_demandThing 12 = .ok (.iconst 5, 1) := by decide +kernel
theorem d_Ho_demandThing_13 : decode b_Ho_demandThing 13 = .ok (.if_icmp .le 13, 3) := by decide +kernel
theorem d_Ho_demandThing_16 : decode b_Ho_demandThing 16 = .ok (.new 79, 3) := by decide +kernel
theorem d_Ho_demandThing_19 : decode b_Ho_demandThing 19 = .ok (.dup, 1) := by decide +kernel
theorem d_Ho_demandThing_20 : decode b_Ho_demandThing 20 = .ok (.ldc 232, 2) := by decide +kernel
theorem d_Ho_demandThing_22 : decode b_Ho_demandThing 22 = .ok (.invokespecial 83, 3) := by decide +kernel
theorem d_Ho_demandThing_25 : decode b_Ho_demandThing 25 = .ok (.athrow, 1) := by decide +kernel
theorem d_Ho_demandThing_26 : decode b_Ho_demandThing 26 = .ok (.getstatic 234, 3) := by decide +kernel
theorem d_Ho_demandThing_29 : decode b_Ho_demandThing 29 = .ok (.iload_n 2, 1) := by decide +kernel
theorem d_Ho_demandThing_30 : decode b_Ho_demandThing 30 = .ok (.iaload, 1) := by decide +kernel
theorem d_Ho_demandThing_31 : decode b_Ho_demandThing 31 = .ok (.iload_n 1, 1) := by decide +kernel
theorem d_Ho_demandThing_32 : decode b_Ho_demandThing 32 = .ok (.sipush 1000, 3) := by decide +kernel
theorem d_Ho_demandThing_35 : decode b_Ho_demandThing 35 = .ok (.irem, 1) := by decide +kernel
theorem d_Ho_demandThing_36 : decode b_Ho_demandThing 36 = .ok (.iadd, 1) := by decide +kernel
theorem d_Ho_demandThing_37 : decode b_Ho_demandThing 37 = .ok (.istore_n 3, 1) := by decide +kernel
theorem d_Ho_demandThing_38 : decode b_Ho_demandThing 38 = .ok (.iload_n 3, 1) := by decide +kernel
theorem d_Ho_demandThing_39 : decode b_Ho_demandThing 39 = .ok (.sipush 150, 3) := by decide +kernel
theorem d_Ho_demandThing_42 : decode b_Ho_demandThing 42 = .ok (.if_icmp .ge 12, 3) := by decide +kernel
theorem d_Ho_demandThing_45 : decode b_Ho_demandThing 45 = .ok (.aload_n 0, 1) := by decide +kernel
theorem d_Ho_demandThing_46 : decode b_Ho_demandThing 46 = .ok (.getfield 70, 3) := by decide +kernel
theorem d_Ho_demandThing_49 : decode b_Ho_demandThing 49 = .ok (.iload_n 3, 1) := by decide +kernel
theorem d_Ho_demandThing_50 : decode b_Ho_demandThing 50 = .ok (.aaload, 1) := by decide +kernel
theorem d_Ho_demandThing_51 : decode b_Ho_demandThing 51 = .ok (.goto 4, 3) := by decide +kernel
theorem d_Ho_demandThing_54 : decode b_Ho_demandThing 54 = .ok (.aconst_null, 1) := by decide +kernel
theorem d_Ho_demandThing_55 : decode b_Ho_demandThing 55 = .ok (.astore 4, 2) := by decide +kernel
theorem d_Ho_demandThing_57 : decode b_Ho_demandThing 57 = .ok (.aload 4, 2) := by decide +kernel
theorem d_Ho_demandThing_59 : decode b_Ho_demandThing 59 = .ok (.ifnonnull 13, 3) := by decide +kernel
theorem d_Ho_demandThing_62 : decode b_Ho_demandThing 62 = .ok (.new 155, 3) := by decide +kernel
theorem d_Ho_demandThing_65 : decode b_Ho_demandThing 65 = .ok (.dup, 1) := by decide +kernel
theorem d_Ho_demandThing_66 : decode b_Ho_demandThing 66 = .ok (.ldc 226, 2) := by decide +kernel
theorem d_Ho_demandThing_68 : decode b_Ho_demandThing 68 = .ok (.invokespecial 159, 3) := by decide +kernel
theorem d_Ho_demandThing_71 : decode b_Ho_demandThing 71 = .ok (.athrow, 1) := by decide +kernel
theorem d_Ho_demandThing_72 : decode b_Ho_demandThing 72 = .ok (.aload 4, 2) := by decide +kernel
theorem d_Ho_demandThing_74 : decode b_Ho_demandThing 74 = .ok (.areturn, 1) := by decide +kernel
theorem d_Ho_demandThere_0 : decode b_Ho_demandThere 0 = .ok (.aload_n 0, 1) := by decide +kernel
theorem d_Ho_demandThere_1 : decode b_Ho_demandThere 1 = .ok (.getfield 172, 3) := by decide +kernel
theorem d_Ho_demandThere_4 : decode b_Ho_demandThere 4 = .ok (.ifCond .ne 13, 3) := by decide +kernel
theorem d_Ho_demandThere_7 : decode b_Ho_demandThere 7 = .ok (.new 237, 3) := by decide +kernel
theorem d_Ho_demandThere_10 : decode b_Ho_demandThere 10 = .ok (.dup, 1) := by decide +kernel
theorem d_Ho_demandThere_11 : decode b_Ho_demandThere 11 = .ok (.ldc 239, 2) := by decide +kernel
theorem d_Ho_demandThere_13 : decode b_Ho_demandThere 13 = .ok (.invokespecial 241, 3) := by decide +kernel
theorem d_Ho_demandThere_16 : decode b_Ho_demandThere 16 = .ok (.athrow, 1) := by decide +kernel
theorem d_Ho_demandThere_17 : decode b_Ho_demandThere 17 = .ok (.return_, 1) := by decide +kernel
theorem d_Ho_demandOpenAct_0 : decode b_Ho_demandOpenAct 0 = .ok (.aload_n 0, 1) := by decide +kernel
theorem d_Ho_demandOpenAct_1 : decode b_Ho_demandOpenAct 1 = .ok (.iload_n 1, 1) := by decide +kernel
theorem d_Ho_demandOpenAct_2 : decode b_Ho_demandOpenAct 2 = .ok (.invokevirtual 97, 3) := by decide +kernel
theorem d_Ho_demandOpenAct_5 : decode b_Ho_demandOpenAct 5 = .ok (.iload_n 1, 1) := by decide +kernel
theorem d_Ho_demandOpenAct_6 : decode b_Ho_demandOpenAct 6 = .ok (.bipush 6, 2) := by decide +kernel
theorem d_Ho_demandOpenAct_8 : decode b_Ho_demandOpenAct 8 = .ok (.invokestatic 101, 3) := by decide +kernel
theorem d_Ho_demandOpenAct_11 : decode b_Ho_demandOpenAct 11 = .ok (.aload_n 0, 1) := by decide +kernel
theorem d_Ho_demandOpenAct_12 : decode b_Ho_demandOpenAct 12 = .ok (.getfield 27, 3) := by decide +kernel
theorem d_Ho_demandOpenAct_15 : decode b_Ho_demandOpenAct 15 = .ok (.iload_n 1, 1) := by decide +kernel
theorem d_Ho_demandOpenAct_16 : decode b_Ho_demandOpenAct 16 = .ok (.sipush 1000, 3) := by decide +kernel
theorem d_Ho_demandOpenAct_19 : decode b_Ho_demandOpenAct 19 = .ok (.irem, 1) := by decide +kernel
theorem d_Ho_demandOpenAct_20 : decode b_Ho_demandOpenAct 20 = .ok (.aaload, 1) := by decide +kernel
theorem d_Ho_demandOpenAct_21 : decode b_Ho_demandOpenAct 21 = .ok (.astore_n 2, 1) := by decide +kernel
theorem d_Ho_demandOpenAct_22 : decode b_Ho_demandOpenAct 22 = .ok (.aload_n 2, 1) := by decide +kernel
theorem d_Ho_demandOpenAct_23 : decode b_Ho_demandOpenAct 23 = .ok (.ifnull 10, 3) := by decide +kernel
theorem d_Ho_demandOpenAct_26 : decode b_Ho_demandOpenAct 26 = .ok (.aload_n 2, 1) := by decide +kernel
theorem d_Ho_demandOpenAct_27 : decode b_Ho_demandOpenAct 27 = .ok (.getfield 209, 3) := by decide +kernel
theorem d_Ho_demandOpenAct_30 : decode b_Ho_demandOpenAct 30 = .ok (.ifCond .ne 13, 3) := by decide +kernel
theorem d_Ho_demandOpenAct_33 : decode b_Ho_demandOpenAct 33 = .ok (.new 237, 3) := by decide +kernel
theorem d_Ho_demandOpenAct_36 : decode b_Ho_demandOpenAct 36 = .ok (.dup, 1) := by decide +kernel
theorem d_Ho_demandOpenAct_37 : decode b_Ho_demandOpenAct 37 = .ok (.ldc 242, 2) := by decide +kernel
theorem d_Ho_demandOpenAct_39 : decode b_Ho_demandOpenAct 39 = .ok (.invokespecial 241, 3) := by decide +kernel
theorem d_Ho_demandOpenAct_42 : decode b_Ho_demandOpenAct 42 = .ok (.athrow, 1) := by decide +kernel
theorem d_Ho_demandOpenAct_43 : decode b_Ho_demandOpenAct 43 = .ok (.aload_n 2, 1) := by decide +kernel
theorem d_Ho_demandOpenAct_44 : decode b_Ho_demandOpenAct 44 = .ok (.areturn, 1) := by decide +kernel
theorem d_Ho_demandNoOpenAct_0 : decode b_Ho_demandNoOpenAct 0 = .ok (.aload_n 0, 1) := by decide +kernel
theorem d_Ho_demandNoOpenAct_1 : decode b_Ho_demandNoOpenAct 1 = .ok (.getfield 27, 3) := by decide +kernel
theorem d_Ho_demandNoOpenAct_4 : decode b_Ho_demandNoOpenAct 4 = .ok (.astore_n 1, 1) := by decide +kernel
theorem d_Ho_demandNoOpenAct_5 : decode b_Ho_demandNoOpenAct 5 = .ok (.aload_n 1, 1) := by decide +kernel
theorem d_Ho_demandNoOpenAct_6 : decode b_Ho_demandNoOpenAct 6 = .ok (.arraylength, 1) := by decide +kernel
theorem d_Ho_demandNoOpenAct_7 : decode b_Ho_demandNoOpenAct 7 = .ok (.istore_n 2, 1) := by decide +kernel
theorem d_Ho_demandNoOpenAct_8 : decode b_Ho_demandNoOpenAct 8 = .ok (.iconst 0, 1) := by decide +kernel
theorem d_Ho_demandNoOpenAct_9 : decode b_Ho_demandNoOpenAct 9 = .ok (.istore_n 3, 1) := by decide +kernel
theorem d_Ho_demandNoOpenAct_10 : decode b_Ho_demandNoOpenAct 10 = .ok (.iload_n 3, 1) := by decide +kernel
theorem d_Ho_demandNoOpenAct_11 : decode b_Ho_demandNoOpenAct 11 = .ok (.iload_n 2, 1) := by decide +kernel
theorem d_Ho_demandNoOpenAct_12 : decode b_Ho_demandNoOpenAct 12 = .ok (.if_icmp .ge 37, 3) := by decide +kernel
theorem d_Ho_demandNoOpenAct_15 : decode b_Ho_demandNoOpenAct 15 = .ok (.aload_n 1, 1) := by decide +kernel
theorem d_Ho_demandNoOpenAct_16 : decode b_Ho_demandNoOpenAct 16 = .ok (.iload_n 3, 1) := by decide +kernel
theorem d_Ho_demandNoOpenAct_17 : decode b_Ho_demandNoOpenAct 17 = .ok (.aaload, 1) := by decide +kernel
theorem d_Ho_demandNoOpenAct_18 : decode b_Ho_demandNoOpenAct 18 = .ok (.astore 4, 2) := by decide +kernel
theorem d_Ho_demandNoOpenAct_20 : decode b_Ho_demandNoOpenAct 20 = .ok (.aload 4, 2) := by decide +kernel
theorem d_Ho_demandNoOpenAct_22 : decode b_Ho_demandNoOpenAct 22 = .ok (.ifnull 21, 3) := by decide +kernel
theorem d_Ho_demandNoOpenAct_25 : decode b_Ho_demandNoOpenAct 25 = .ok (.aload 4, 2) := by decide +kernel
theorem d_Ho_demandNoOpenAct_27 : decode b_Ho_demandNoOpenAct 27 = .ok (.getfield 209, 3) := by decide +kernel
theorem d_Ho_demandNoOpenAct_30 : decode b_Ho_demandNoOpenAct 30 = .ok (.ifCond .eq 13, 3) := by decide +kernel
theorem d_Ho_demandNoOpenAct_33 : decode b_Ho_demandNoOpenAct 33 = .ok (.new 237, 3) := by decide +kernel
theorem d_Ho_demandNoOpenAct_36 : decode b_Ho_demandNoOpenAct 36 = .ok (.dup, 1) := by decide +kernel
theorem d_Ho_demandNoOpenAct_37 : decode b_Ho_demandNoOpenAct 37 = .ok (.ldc 244, 2) := by decide +kernel
theorem d_Ho_demandNoOpenAct_39 : decode b_Ho_demandNoOpenAct 39 = .ok (.invokespecial 241, 3) := by decide +kernel
theorem d_Ho_demandNoOpenAct_42 : decode b_Ho_demandNoOpenAct 42 = .ok (.athrow, 1) := by decide +kernel
theorem d_Ho_demandNoOpenAct_43 : decode b_Ho_demandNoOpenAct 43 = .ok (.iinc 3 1, 3) := by decide +kernel
theorem d_Ho_demandNoOpenAct_46 : decode b_Ho_demandNoOpenAct 46 = .ok (.goto (-36), 3) := by decide +kernel
theorem d_Ho_demandNoOpenAct_49 : decode b_Ho_demandNoOpenAct 49 = .ok (.return_, 1) := by decide +kernel
theorem d_Ho_isFull_0 : decode b_Ho_isFull 0 = .ok (.aload_n 0, 1) := by decide +kernel
theorem d_Ho_isFull_1 : decode b_Ho_isFull 1 = .ok (.getfield 18, 3) := by decide +kernel
theorem d_Ho_isFull_4 : decode b_Ho_isFull 4 = .ok (.iload_n 1, 1) := by decide +kernel
theorem d_Ho_isFull_5 : decode b_Ho_isFull 5 = .ok (.iaload, 1) := by decide +kernel
theorem d_Ho_isFull_6 : decode b_Ho_isFull 6 = .ok (.getstatic 22, 3) := by decide +kernel
theorem d_Ho_isFull_9 : decode b_Ho_isFull 9 = .ok (.iload_n 1, 1) := by decide +kernel
theorem d_Ho_isFull_10 : decode b_Ho_isFull 10 = .ok (.iaload, 1) := by decide +kernel
theorem d_Ho_isFull_11 : decode b_Ho_isFull 11 = .ok (.if_icmp .lt 7, 3) := by decide +kernel
theorem d_Ho_isFull_14 : decode b_Ho_isFull 14 = .ok (.iconst 1, 1) := by decide +kernel
theorem d_Ho_isFull_15 : decode b_Ho_isFull 15 = .ok (.goto 4, 3) := by decide +kernel
theorem d_Ho_isFull_18 : decode b_Ho_isFull 18 = .ok (.iconst 0, 1) := by decide +kernel
theorem d_Ho_isFull_19 : decode b_Ho_isFull 19 = .ok (.ireturn, 1) := by decide +kernel
theorem d_Ho_nextHandle_0 : decode b_Ho_nextHandle 0 = .ok (.sipush 1000, 3) := by decide +kernel
theorem d_Ho_nextHandle_3 : decode b_Ho_nextHandle 3 = .ok (.iload_n 1, 1) := by decide +kernel
theorem d_Ho_nextHandle_4 : decode b_Ho_nextHandle 4 = .ok (.imul, 1) := by decide +kernel
theorem d_Ho_nextHandle_5 : decode b_Ho_nextHandle 5 = .ok (.aload_n 0, 1) := by decide +kernel
theorem d_Ho_nextHandle_6 : decode b_Ho_nextHandle 6 = .ok (.getfield 18, 3) := by decide +kernel
theorem d_Ho_nextHandle_9 : decode b_Ho_nextHandle 9 = .ok (.iload_n 1, 1) := by decide +kernel
theorem d_Ho_nextHandle_10 : decode b_Ho_nextHandle 10 = .ok (.iaload, 1) := by decide +kernel
theorem d_Ho_nextHandle_11 : decode b_Ho_nextHandle 11 = .ok (.iadd, 1) := by decide +kernel
theorem d_Ho_nextHandle_12 : decode b_Ho_nextHandle 12 = .ok (.istore_n 2, 1) := by decide +kernel
theorem d_Ho_nextHandle_13 : decode b_Ho_nextHandle 13 = .ok (.aload_n 0, 1) := by decide +kernel
theorem d_Ho_nextHandle_14 : decode b_Ho_nextHandle 14 = .ok (.getfield 18, 3) := by decide +kernel
theorem d_Ho_nextHandle_17 : decode b_Ho_nextHandle 17 = .ok (.iload_n 1, 1) := by decide +kernel
theorem d_Ho_nextHandle_18 : decode b_Ho_nextHandle 18 = .ok (.dup2, 1) := by decide +kernel
theorem d_Ho_nextHandle_19 : decode b_Ho_nextHandle 19 = .ok (.iaload, 1) := by decide +kernel
theorem d_Ho_nextHandle_20 : decode b_Ho_nextHandle 20 = .ok (.iconst 1, 1) := by decide +kernel
theorem d_Ho_nextHandle_21 : decode b_Ho_nextHandle 21 = .ok (.iadd, 1) := by decide +kernel
theorem d_Ho_nextHandle_22 : decode b_Ho_nextHandle 22 = .ok (.iastore, 1) := by decide +kernel
theorem d_Ho_nextHandle_23 : decode b_Ho_nextHandle 23 = .ok (.iload_n 2, 1) := by decide +kernel
theorem d_Ho_nextHandle_24 : decode b_Ho_nextHandle 24 = .ok (.ireturn, 1) := by decide +kernel
theorem d_Ho_make_0 : decode b_Ho_make 0 = .ok (.aload_n 0, 1) := by decide +kernel
theorem d_Ho_make_1 : decode b_Ho_make 1 = .ok (.aload_n 0, 1) := by decide +kernel
theorem d_Ho_make_2 : decode b_Ho_make 2 = .ok (.aload_n 1, 1) := by decide +kernel
theorem d_Ho_make_3 : decode b_Ho_make 3 = .ok (.aload_n 2, 1) := by decide +kernel
theorem d_Ho_make_4 : decode b_Ho_make 4 = .ok (.invokevirtual 246, 3) := by decide +kernel
theorem d_Ho_make_7 : decode b_Ho_make 7 = .ok (.putfield 41, 3) := by decide +kernel
theorem d_Ho_make_10 : decode b_Ho_make 10 = .ok (.aload_n 0, 1) := by decide +kernel
theorem d_Ho_make_11 : decode b_Ho_make 11 = .ok (.getfield 41, 3) := by decide +kernel
theorem d_Ho_make_14 : decode b_Ho_make 14 = .ok (.ifCond .eq 5, 3) := by decide +kernel
theorem d_Ho_make_17 : decode b_Ho_make 17 = .ok (.iconst (-1), 1) := by decide +kernel
theorem d_Ho_make_18 : decode b_Ho_make 18 = .ok (.ireturn, 1) := by decide +kernel
theorem d_Ho_make_19 : decode b_Ho_make 19 = .ok (.aload_n 0, 1) := by decide +kernel
theorem d_Ho_make_20 : decode b_Ho_make 20 = .ok (.getfield 70, 3) := by decide +kernel
theorem d_Ho_make_23 : decode b_Ho_make 23 = .ok (.aload_n 1, 1) := by decide +kernel
theorem d_Ho_make_24 : decode b_Ho_make 24 = .ok (.invokevirtual 249, 3) := by decide +kernel
theorem d_Ho_make_27 : decode b_Ho_make 27 = .ok (.aload_n 1, 1) := by decide +kernel
theorem d_Ho_make_28 : decode b_Ho_make 28 = .ok (.aastore, 1) := by decide +kernel
theorem d_Ho_make_29 : decode b_Ho_make 29 = .ok (.aload_n 0, 1) := by decide +kernel
theorem d_Ho_make_30 : decode b_Ho_make 30 = .ok (.aload_n 1, 1) := by decide +kernel
theorem d_Ho_make_31 : decode b_Ho_make 31 = .ok (.invokevirtual 253, 3) := by decide +kernel
theorem d_Ho_make_34 : decode b_Ho_make 34 = .ok (.aload_n 1, 1) := by decide +kernel
theorem d_Ho_make_35 : decode b_Ho_make 35 = .ok (.iconst 1, 1) := by decide +kernel
theorem d_Ho_make_36 : decode b_Ho_make 36 = .ok (.putfield 172, 3) := by decide +kernel
theorem d_Ho_make_39 : decode b_Ho_make 39 = .ok (.aload_n 0, 1) := by decide +kernel
theorem d_Ho_make_40 : decode b_Ho_make 40 = .ok (.aload_n 1, 1) := by decide +kernel
theorem d_Ho_make_41 : decode b_Ho_make 41 = .ok (.getfield 187, 3) := by decide +kernel
theorem d_Ho_make_44 : decode b_Ho_make 44 = .ok (.invokevirtual 75, 3) := by decide +kernel
theorem d_Ho_make_47 : decode b_Ho_make 47 = .ok (.ireturn, 1) := by decide +kernel
theorem d_Ho_whyNotMade_0 : decode b_Ho_whyNotMade 0 = .ok (.aload_n 0, 1) := by decide +kernel
theorem d_Ho_whyNotMade_1 : decode b_Ho_whyNotMade 1 = .ok (.aload_n 1, 1) := by decide +kernel
theorem d_Ho_whyNotMade_2 : decode b_Ho_whyNotMade 2 = .ok (.getfield 187, 3) := by decide +kernel
theorem d_Ho_whyNotMade_5 : decode b_Ho_whyNotMade 5 = .ok (.invokevirtual 71, 3) := by decide +kernel
theorem d_Ho_whyNotMade_8 : decode b_Ho_whyNotMade 8 = .ok (.ifCond .eq 5, 3) := by decide +kernel
theorem d_Ho_whyNotMade_11 : decode b_Ho_whyNotMade 11 = .ok (.iconst 1, 1) := by decide +kernel
theorem d_Ho_whyNotMade_12 : decode b_Ho_whyNotMade 12 = .ok (.ireturn, 1) := by decide +kernel
theorem d_Ho_whyNotMade_13 : decode b_Ho_whyNotMade 13 = .ok (.aload_n 2, 1) := by decide +kernel
theorem d_Ho_whyNotMade_14 : decode b_Ho_whyNotMade 14 = .ok (.aload_n 1, 1) := by decide +kernel
theorem d_Ho_whyNotMade_15 : decode b_Ho_whyNotMade 15 = .ok (.getfield 112, 3) := by decide +kernel
theorem d_Ho_whyNotMade_18 : decode b_Ho_whyNotMade 18 = .ok (.invokevirtual 256, 3) := by decide +kernel
theorem d_Ho_whyNotMade_21 : decode b_Ho_whyNotMade 21 = .ok (.ifCond .ne 5, 3) := by decide +kernel
theorem d_Ho_whyNotMade_24 : decode b_Ho_whyNotMade 24 = .ok (.iconst 2, 1) := by decide +kernel
theorem d_Ho_whyNotMade_25 : decode b_Ho_whyNotMade 25 = .ok (.ireturn, 1) := by decide +kernel
theorem d_Ho_whyNotMade_26 : decode b_Ho_whyNotMade 26 = .ok (.aload_n 0, 1) := by decide +kernel
theorem d_Ho_whyNotMade_27 : decode b_Ho_whyNotMade 27 = .ok (.aload_n 1, 1) := by decide +kernel
theorem d_Ho_whyNotMade_28 : decode b_Ho_whyNotMade 28 = .ok (.getfield 112, 3) := by decide +kernel
theorem d_Ho_whyNotMade_31 : decode b_Ho_whyNotMade 31 = .ok (.invokevirtual 137, 3) := by decide +kernel
theorem d_Ho_whyNotMade_34 : decode b_Ho_whyNotMade 34 = .ok (.ifCond .eq 5, 3) := by decide +kernel
theorem d_Ho_whyNotMade_37 : decode b_Ho_whyNotMade 37 = .ok (.iconst 3, 1) := by decide +kernel
theorem d_Ho_whyNotMade_38 : decode b_Ho_whyNotMade 38 = .ok (.ireturn, 1) := by decide +kernel
theorem d_Ho_whyNotMade_39 : decode b_Ho_whyNotMade 39 = .ok (.aload_n 0, 1) := by decide +kernel
theorem d_Ho_whyNotMade_40 : decode b_Ho_whyNotMade 40 = .ok (.aload_n 1, 1) := by decide +kernel
theorem d_Ho_whyNotMade_41 : decode b_Ho_whyNotMade 41 = .ok (.aload_n 1, 1) := by decide +kernel
theorem d_Ho_whyNotMade_42 : decode b_Ho_whyNotMade 42 = .ok (.getfield 112, 3) := by decide +kernel
theorem d_Ho_whyNotMade_45 : decode b_Ho_whyNotMade 45 = .ok (.invokevirtual 259, 3) := by decide +kernel
theorem d_Ho_whyNotMade_48 : decode b_Ho_whyNotMade 48 = .ok (.ifCond .eq 5, 3) := by decide +kernel
theorem d_Ho_whyNotMade_51 : decode b_Ho_whyNotMade 51 = .ok (.iconst 4, 1) := by decide +kernel
theorem d_Ho_whyNotMade_52 : decode b_Ho_whyNotMade 52 = .ok (.ireturn, 1) := by decide +kernel
theorem d_Ho_whyNotMade_53 : decode b_Ho_whyNotMade 53 = .ok (.aload_n 0, 1) := by decide +kernel
theorem d_Ho_whyNotMade_54 : decode b_Ho_whyNotMade 54 = .ok (.getfield 62, 3) := by decide +kernel
theorem d_Ho_whyNotMade_57 : decode b_Ho_whyNotMade 57 = .ok (.aload_n 1, 1) := by decide +kernel
theorem d_Ho_whyNotMade_58 : decode b_Ho_whyNotMade 58 = .ok (.aload_n 1, 1) := by decide +kernel
theorem d_Ho_whyNotMade_59 : decode b_Ho_whyNotMade 59 = .ok (.iconst 0, 1) := by decide +kernel
theorem d_Ho_whyNotMade_60 : decode b_Ho_whyNotMade 60 = .ok (.iconst 0, 1) := by decide +kernel
theorem d_Ho_whyNotMade_61 : decode b_Ho_whyNotMade 61 = .ok (.invokevirtual 263, 3) := by decide +kernel
theorem d_Ho_whyNotMade_64 : decode b_Ho_whyNotMade 64 = .ok (.ifCond .eq 7, 3) := by decide +kernel
theorem d_Ho_whyNotMade_67 : decode b_Ho_whyNotMade 67 = .ok (.iconst 5, 1) := by decide +kernel
theorem d_Ho_whyNotMade_68 : decode b_Ho_whyNotMade 68 = .ok (.goto 4, 3) := by decide +kernel
theorem d_Ho_whyNotMade_71 : decode b_Ho_whyNotMade 71 = .ok (.iconst 0, 1) := by decide +kernel
theorem d_Ho_whyNotMade_72 : decode b_Ho_whyNotMade 72 = .ok (.ireturn, 1) := by decide +kernel
theorem d_Ho_whyNotMoved_0 : decode b_Ho_whyNotMoved 0 = .ok (.aload_n 0, 1) := by decide +kernel
theorem d_Ho_whyNotMoved_1 : decode b_Ho_whyNotMoved 1 = .ok (.getfield 14, 3) := by decide +kernel
theorem d_Ho_whyNotMoved_4 : decode b_Ho_whyNotMoved 4 = .ok (.aload_n 2, 1) := by decide +kernel
theorem d_Ho_whyNotMoved_5 : decode b_Ho_whyNotMoved 5 = .ok (.invokevirtual 256, 3) := by decide +kernel
theorem d_Ho_whyNotMoved_8 : decode b_Ho_whyNotMoved 8 = .ok (.ifCond .ne 5, 3) := by decide +kernel
theorem d_Ho_whyNotMoved_11 : decode b_Ho_whyNotMoved 11 = .ok (.iconst 2, 1) := by decide +kernel
theorem d_Ho_whyNotMoved_12 : decode b_Ho_whyNotMoved 12 = .ok (.ireturn, 1) := by decide +kernel
theorem d_Ho_whyNotMoved_13 : decode b_Ho_whyNotMoved 13 = .ok (.aload_n 0, 1) := by decide +kernel
theorem d_Ho_whyNotMoved_14 : decode b_Ho_whyNotMoved 14 = .ok (.aload_n 1, 1) := by decide +kernel
theorem d_Ho_whyNotMoved_15 : decode b_Ho_whyNotMoved 15 = .ok (.getfield 112, 3) := by decide +kernel
theorem d_Ho_whyNotMoved_18 : decode b_Ho_whyNotMoved 18 = .ok (.invokevirtual 137, 3) := by decide +kernel
theorem d_Ho_whyNotMoved_21 : decode b_Ho_whyNotMoved 21 = .ok (.ifCond .ne 11, 3) := by decide +kernel
theorem d_Ho_whyNotMoved_24 : decode b_Ho_whyNotMoved 24 = .ok (.aload_n 0, 1) := by decide +kernel
theorem d_Ho_whyNotMoved_25 : decode b_Ho_whyNotMoved 25 = .ok (.aload_n 2, 1) := by decide +kernel
theorem d_Ho_whyNotMoved_26 : decode b_Ho_whyNotMoved 26 = .ok (.invokevirtual 137, 3) := by decide +kernel
theorem d_Ho_whyNotMoved_29 : decode b_Ho_whyNotMoved 29 = .ok (.ifCond .eq 5, 3) := by decide +kernel
theorem d_Ho_whyNotMoved_32 : decode b_Ho_whyNotMoved 32 = .ok (.iconst 3, 1) := by decide +kernel
theorem d_Ho_whyNotMoved_33 : decode b_Ho_whyNotMoved 33 = .ok (.ireturn, 1) := by decide +kernel
theorem d_Ho_whyNotMoved_34 : decode b_Ho_whyNotMoved 34 = .ok (.aload_n 0, 1) := by decide +kernel
theorem d_Ho_whyNotMoved_35 : decode b_Ho_whyNotMoved 35 = .ok (.aload_n 1, 1) := by decide +kernel
theorem d_Ho_whyNotMoved_36 : decode b_Ho_whyNotMoved 36 = .ok (.aload_n 2, 1) := by decide +kernel
theorem d_Ho_whyNotMoved_37 : decode b_Ho_whyNotMoved 37 = .ok (.invokevirtual 259, 3) := by decide +kernel
theorem d_Ho_whyNotMoved_40 : decode b_Ho_whyNotMoved 40 = .ok (.ifCond .eq 5, 3) := by decide +kernel
theorem d_Ho_whyNotMoved_43 : decode b_Ho_whyNotMoved 43 = .ok (.iconst 4, 1) := by decide +kernel
theorem d_Ho_whyNotMoved_44 : decode b_Ho_whyNotMoved 44 = .ok (.ireturn, 1) := by decide +kernel
theorem d_Ho_whyNotMoved_45 : decode b_Ho_whyNotMoved 45 = .ok (.aload_n 2, 1) := by decide +kernel
theorem d_Ho_whyNotMoved_46 : decode b_Ho_whyNotMoved 46 = .ok (.getfield 115, 3) := by decide +kernel
theorem d_Ho_whyNotMoved_49 : decode b_Ho_whyNotMoved 49 = .ok (.aload_n 1, 1) := by decide +kernel
theorem d_Ho_whyNotMoved_50 : decode b_Ho_whyNotMoved 50 = .ok (.getfield 112, 3) := by decide +kernel
theorem d_Ho_whyNotMoved_53 : decode b_Ho_whyNotMoved 53 = .ok (.getfield 115, 3) := by decide +kernel
theorem d_Ho_whyNotMoved_56 : decode b_Ho_whyNotMoved 56 = .ok (.isub, 1) := by decide +kernel
theorem d_Ho_whyNotMoved_57 : decode b_Ho_whyNotMoved 57 = .ok (.istore_n 3, 1) := by decide +kernel
theorem d_Ho_whyNotMoved_58 : decode b_Ho_whyNotMoved 58 = .ok (.aload_n 2, 1) := by decide +kernel
theorem d_Ho_whyNotMoved_59 : decode b_Ho_whyNotMoved 59 = .ok (.getfield 118, 3) := by decide +kernel
theorem d_Ho_whyNotMoved_62 : decode b_Ho_whyNotMoved 62 = .ok (.aload_n 1, 1) := by decide +kernel
theorem d_Ho_whyNotMoved_63 : decode b_Ho_whyNotMoved 63 = .ok (.getfield 112, 3) := by decide +kernel
theorem d_Ho_whyNotMoved_66 : decode b_Ho_whyNotMoved 66 = .ok (.getfield 118, 3) := by decide +kernel
theorem d_Ho_whyNotMoved_69 : decode b_Ho_whyNotMoved 69 = .ok (.isub, 1) := by decide +kernel
theorem d_Ho_whyNotMoved_70 : decode b_Ho_whyNotMoved 70 = .ok (.istore 4, 2) := by decide +kernel
theorem d_Ho_whyNotMoved_72 : decode b_Ho_whyNotMoved 72 = .ok (.aload_n 0, 1) := by decide +kernel
theorem d_Ho_whyNotMoved_73 : decode b_Ho_whyNotMoved 73 = .ok (.getfield 62, 3) := by decide +kernel
theorem d_Ho_whyNotMoved_76 : decode b_Ho_whyNotMoved 76 = .ok (.aload_n 1, 1) := by decide +kernel
theorem d_Ho_whyNotMoved_77 : decode b_Ho_whyNotMoved 77 = .ok (.iload_n 3, 1) := by decide +kernel
theorem d_Ho_whyNotMoved_78 : decode b_Ho_whyNotMoved 78 = .ok (.iload 4, 2) := by decide +kernel
theorem d_Ho_whyNotMoved_80 : decode b_Ho_whyNotMoved 80 = .ok (.invokevirtual 267, 3) := by decide +kernel
theorem d_Ho_whyNotMoved_83 : decode b_Ho_whyNotMoved 83 = .ok (.ifCond .eq 7, 3) := by decide +kernel
theorem d_Ho_whyNotMoved_86 : decode b_Ho_whyNotMoved 86 = .ok (.iconst 5, 1) := by decide +kernel
theorem d_Ho_whyNotMoved_87 : decode b_Ho_whyNotMoved 87 = .ok (.goto 4, 3) := by decide +kernel
theorem d_Ho_whyNotMoved_90 : decode b_Ho_whyNotMoved 90 = .ok (.iconst 0, 1) := by decide +kernel
theorem d_Ho_whyNotMoved_91 : decode b_Ho_whyNotMoved 91 = .ok (.ireturn, 1) := by decide +kernel
theorem d_Ho_whyNotBegun_0 : decode b_Ho_whyNotBegun 0 = .ok (.aload_n 0, 1) := by decide +kernel
theorem d_Ho_whyNotBegun_1 : decode b_Ho_whyNotBegun 1 = .ok (.bipush 6, 2) := by decide +kernel
theorem d_Ho_whyNotBegun_3 : decode b_Ho_whyNotBegun 3 = .ok (.invokevirtual 71, 3) := by decide +kernel
theorem d_Ho_whyNotBegun_6 : decode b_Ho_whyNotBegun 6 = .ok (.ifCond .eq 5, 3) := by decide +kernel
theorem d_Ho_whyNotBegun_9 : decode b_Ho_whyNotBegun 9 = .ok (.iconst 1, 1) := by decide +kernel
theorem d_Ho_whyNotBegun_10 : decode b_Ho_whyNotBegun 10 = .ok (.ireturn, 1) := by decide +kernel
theorem d_Ho_whyNotBegun_11 : decode b_Ho_whyNotBegun 11 = .ok (.aload_n 0, 1) := by decide +kernel
theorem d_Ho_whyNotBegun_12 : decode b_Ho_whyNotBegun 12 = .ok (.getfield 14, 3) := by decide +kernel
theorem d_Ho_whyNotBegun_15 : decode b_Ho_whyNotBegun 15 = .ok (.aload_n 1, 1) := by decide +kernel
theorem d_Ho_whyNotBegun_16 : decode b_Ho_whyNotBegun 16 = .ok (.invokevirtual 256, 3) := by decide +kernel
theorem d_Ho_whyNotBegun_19 : decode b_Ho_whyNotBegun 19 = .ok (.ifCond .ne 5, 3) := by decide +kernel
theorem d_Ho_whyNotBegun_22 : decode b_Ho_whyNotBegun 22 = .ok (.iconst 2, 1) := by decide +kernel
theorem d_Ho_whyNotBegun_23 : decode b_Ho_whyNotBegun 23 = .ok (.ireturn, 1) := by decide +kernel
theorem d_Ho_whyNotBegun_24 : decode b_Ho_whyNotBegun 24 = .ok (.aload_n 0, 1) := by decide +kernel
theorem d_Ho_whyNotBegun_25 : decode b_Ho_whyNotBegun 25 = .ok (.aload_n 1, 1) := by decide +kernel
theorem d_Ho_whyNotBegun_26 : decode b_Ho_whyNotBegun 26 = .ok (.aconst_null, 1) := by decide +kernel
theorem d_Ho_whyNotBegun_27 : decode b_Ho_whyNotBegun 27 = .ok (.invokevirtual 271, 3) := by decide +kernel
theorem d_Ho_whyNotBegun_30 : decode b_Ho_whyNotBegun 30 = .ok (.ifCond .eq 7, 3) := by decide +kernel
theorem d_Ho_whyNotBegun_33 : decode b_Ho_whyNotBegun 33 = .ok (.iconst 3, 1) := by decide +kernel
theorem d_Ho_whyNotBegun_34 : decode b_Ho_whyNotBegun 34 = .ok (.goto 4, 3) := by decide +kernel
theorem d_Ho_whyNotBegun_37 : decode b_Ho_whyNotBegun 37 = .ok (.iconst 0, 1) := by decide +kernel
theorem d_Ho_whyNotBegun_38 : decode b_Ho_whyNotBegun 38 = .ok (.ireturn, 1) := by decide +kernel
theorem d_Ho_isBarred_0 : decode b_Ho_isBarred 0 = .ok (.aload_n 0, 1) := by decide +kernel
theorem d_Ho_isBarred_1 : decode b_Ho_isBarred 1 = .ok (.getfield 37, 3) := by decide +kernel
theorem d_Ho_isBarred_4 : decode b_Ho_isBarred 4 = .ok (.ifnull 17, 3) := by decide +kernel
theorem d_Ho_isBarred_7 : decode b_Ho_isBarred 7 = .ok (.aload_n 0, 1) := by decide +kernel
theorem d_Ho_isBarred_8 : decode b_Ho_isBarred 8 = .ok (.getfield 37, 3) := by decide +kernel
theorem d_Ho_isBarred_11 : decode b_Ho_isBarred 11 = .ok (.getfield 275, 3) := by decide +kernel
theorem d_Ho_isBarred_14 : decode b_Ho_isBarred 14 = .ok (.aload_n 1, 1) := by decide +kernel
theorem d_Ho_isBarred_15 : decode b_Ho_isBarred 15 = .ok (.invokevirtual 256, 3) := by decide +kernel
theorem d_Ho_isBarred_18 : decode b_Ho_isBarred 18 = .ok (.ifCond .eq 15, 3) := by decide +kernel
theorem d_Ho_isBarred_21 : decode b_Ho_isBarred 21 = .ok (.aload_n 0, 1) := by decide +kernel
theorem d_Ho_isBarred_22 : decode b_Ho_isBarred 22 = .ok (.aload_n 1, 1) := by decide +kernel
theorem d_Ho_isBarred_23 : decode b_Ho_isBarred 23 = .ok (.aload_n 0, 1) := by decide +kernel
theorem d_Ho_isBarred_24 : decode b_Ho_isBarred 24 = .ok (.getfield 37, 3) := by decide +kernel
theorem d_Ho_isBarred_27 : decode b_Ho_isBarred 27 = .ok (.invokevirtual 271, 3) := by decide +kernel
theorem d_Ho_isBarred_30 : decode b_Ho_isBarred 30 = .ok (.ifCond .eq 7, 3) := by decide +kernel
theorem d_Ho_isBarred_33 : decode b_Ho_isBarred 33 = .ok (.iconst 1, 1) := by decide +kernel
theorem d_Ho_isBarred_34 : decode b_Ho_isBarred 34 = .ok (.goto 4, 3) := by decide +kernel
theorem d_Ho_isBarred_37 : decode b_Ho_isBarred 37 = .ok (.iconst 0, 1) := by decide +kernel
theorem d_Ho_isBarred_38 : decode b_Ho_isBarred 38 = .ok (.ireturn, 1) := by decide +kernel
theorem d_Ho_meetsOpenAct_0 : decode b_Ho_meetsOpenAct 0 = .ok (.aload_n 0, 1) := by decide +kernel
theorem d_Ho_meetsOpenAct_1 : decode b_Ho_meetsOpenAct 1 = .ok (.getfield 27, 3) := by decide +kernel
theorem d_Ho_meetsOpenAct_4 : decode b_Ho_meetsOpenAct 4 = .ok (.astore_n 3, 1) := by decide +kernel
theorem d_Ho_meetsOpenAct_5 : decode b_Ho_meetsOpenAct 5 = .ok (.aload_n 3, 1) := by decide +kernel
theorem d_Ho_meetsOpenAct_6 : decode b_Ho_meetsOpenAct 6 = .ok (.arraylength, 1) := by decide +kernel
theorem d_Ho_meetsOpenAct_7 : decode b_Ho_meetsOpenAct 7 = .ok (.istore 4, 2) := by decide +kernel
theorem d_Ho_meetsOpenAct_9 : decode b_Ho_meetsOpenAct 9 = .ok (.iconst 0, 1) := by decide +kernel
theorem d_Ho_meetsOpenAct_10 : decode b_Ho_meetsOpenAct 10 = .ok (.istore 5, 2) := by decide +kernel
theorem d_Ho_meetsOpenAct_12 : decode b_Ho_meetsOpenAct 12 = .ok (.iload 5, 2) := by decide +kernel
theorem d_Ho_meetsOpenAct_14 : decode b_Ho_meetsOpenAct 14 = .ok (.iload 4, 2) := by decide +kernel
theorem d_Ho_meetsOpenAct_16 : decode b_Ho_meetsOpenAct 16 = .ok (.if_icmp .ge 48, 3) := by decide +kernel
theorem d_Ho_meetsOpenAct_19 : decode b_Ho_meetsOpenAct 19 = .ok (.aload_n 3, 1) := by decide +kernel
theorem d_Ho_meetsOpenAct_20 : decode b_Ho_meetsOpenAct 20 = .ok (.iload 5, 2) := by decide +kernel
theorem d_Ho_meetsOpenAct_22 : decode b_Ho_meetsOpenAct 22 = .ok (.aaload, 1) := by decide +kernel
theorem d_Ho_meetsOpenAct_23 : decode b_Ho_meetsOpenAct 23 = .ok (.astore 6, 2) := by decide +kernel
theorem d_Ho_meetsOpenAct_25 : decode b_Ho_meetsOpenAct 25 = .ok (.aload 6, 2) := by decide +kernel
theorem d_Ho_meetsOpenAct_27 : decode b_Ho_meetsOpenAct 27 = .ok (.ifnull 31, 3) := by decide +kernel
theorem d_Ho_meetsOpenAct_30 : decode b_Ho_meetsOpenAct 30 = .ok (.aload 6, 2) := by decide +kernel
theorem d_Ho_meetsOpenAct_32 : decode b_Ho_meetsOpenAct 32 = .ok (.getfield 209, 3) := by decide +kernel
theorem d_Ho_meetsOpenAct_35 : decode b_Ho_meetsOpenAct 35 = .ok (.ifCond .eq 23, 3) := by decide +kernel
theorem d_Ho_meetsOpenAct_38 : decode b_Ho_meetsOpenAct 38 = .ok (.aload 6, 2) := by decide +kernel
theorem d_Ho_meetsOpenAct_40 : decode b_Ho_meetsOpenAct 40 = .ok (.aload_n 2, 1) := by decide +kernel
theorem d_Ho_meetsOpenAct_41 : decode b_Ho_meetsOpenAct 41 = .ok (.if_acmp .eq 17, 3) := by decide +kernel
theorem d_Ho_meetsOpenAct_44 : decode b_Ho_meetsOpenAct 44 = .ok (.aload 6, 2) := by decide +kernel
theorem d_Ho_meetsOpenAct_46 : decode b_Ho_meetsOpenAct 46 = .ok (.getfield 275, 3) := by decide +kernel
theorem d_Ho_meetsOpenAct_49 : decode b_Ho_meetsOpenAct 49 = .ok (.aload_n 1, 1) := by decide +kernel
theorem d_Ho_meetsOpenAct_50 : decode b_Ho_meetsOpenAct 50 = .ok (.invokevirtual 278, 3) := by decide +kernel
theorem d_Ho_meetsOpenAct_53 : decode b_Ho_meetsOpenAct 53 = .ok (.ifCond .eq 5, 3) := by decide +kernel
theorem d_Ho_meetsOpenAct_56 : decode b_Ho_meetsOpenAct 56 = .ok (.iconst 1, 1) := by decide +kernel
theorem d_Ho_meetsOpenAct_57 : decode b_Ho_meetsOpenAct 57 = .ok (.ireturn, 1) := by decide +kernel
theorem d_Ho_meetsOpenAct_58 : decode b_Ho_meetsOpenAct 58 = .ok (.iinc 5 1, 3) := by decide +kernel
theorem d_Ho_meetsOpenAct_61 : decode b_Ho_meetsOpenAct 61 = .ok (.goto (-49), 3) := by decide +kernel
theorem d_Ho_meetsOpenAct_64 : decode b_Ho_meetsOpenAct 64 = .ok (.iconst 0, 1) := by decide +kernel
theorem d_Ho_meetsOpenAct_65 : decode b_Ho_meetsOpenAct 65 = .ok (.ireturn, 1) := by decide +kernel
theorem d_Ho_overlapsAnother_0 : decode b_Ho_overlapsAnother 0 = .ok (.aload_n 0, 1) := by decide +kernel
theorem d_Ho_overlapsAnother_1 : decode b_Ho_overlapsAnother 1 = .ok (.getfield 70, 3) := by decide +kernel
theorem d_Ho_overlapsAnother_4 : decode b_Ho_overlapsAnother 4 = .ok (.astore_n 3, 1) := by decide +kernel
theorem d_Ho_overlapsAnother_5 : decode b_Ho_overlapsAnother 5 = .ok (.aload_n 3, 1) := by decide +kernel
theorem d_Ho_overlapsAnother_6 : decode b_Ho_overlapsAnother 6 = .ok (.arraylength, 1) := by decide +kernel
theorem d_Ho_overlapsAnother_7 : decode b_Ho_overlapsAnother 7 = .ok (.istore 4, 2) := by decide +kernel
theorem d_Ho_overlapsAnother_9 : decode b_Ho_overlapsAnother 9 = .ok (.iconst 0, 1) := by decide +kernel
theorem d_Ho_overlapsAnother_10 : decode b_Ho_overlapsAnother 10 = .ok (.istore 5, 2) := by decide +kernel
theorem d_Ho_overlapsAnother_12 : decode b_Ho_overlapsAnother 12 = .ok (.iload 5, 2) := by decide +kernel
theorem d_Ho_overlapsAnother_14 : decode b_Ho_overlapsAnother 14 = .ok (.iload 4, 2) := by decide +kernel
theorem d_Ho_overlapsAnother_16 : decode b_Ho_overlapsAnother 16 = .ok (.if_icmp .ge 57, 3) := by decide +kernel
theorem d_Ho_overlapsAnother_19 : decode b_Ho_overlapsAnother 19 = .ok (.aload_n 3, 1) := by decide +kernel
theorem d_Ho_overlapsAnother_20 : decode b_Ho_overlapsAnother 20 = .ok (.iload 5, 2) := by decide +kernel
theorem d_Ho_overlapsAnother_22 : decode b_Ho_overlapsAnother 22 = .ok (.aaload, 1) := by decide +kernel
theorem d_Ho_overlapsAnother_23 : decode b_Ho_overlapsAnother 23 = .ok (.astore 6, 2) := by decide +kernel
theorem d_Ho_overlapsAnother_25 : decode b_Ho_overlapsAnother 25 = .ok (.aload 6, 2) := by decide +kernel
theorem d_Ho_overlapsAnother_27 : decode b_Ho_overlapsAnother 27 = .ok (.ifnull 40, 3) := by decide +kernel
theorem d_Ho_overlapsAnother_30 : decode b_Ho_overlapsAnother 30 = .ok (.aload 6, 2) := by decide +kernel
theorem d_Ho_overlapsAnother_32 : decode b_Ho_overlapsAnother 32 = .ok (.getfield 172, 3) := by decide +kernel
theorem d_Ho_overlapsAnother_35 : decode b_Ho_overlapsAnother 35 = .ok (.ifCond .eq 32, 3) := by decide +kernel
theorem d_Ho_overlapsAnother_38 : decode b_Ho_overlapsAnother 38 = .ok (.aload 6, 2) := by decide +kernel
theorem d_Ho_overlapsAnother_40 : decode b_Ho_overlapsAnother 40 = .ok (.aload_n 1, 1) := by decide +kernel
theorem d_Ho_overlapsAnother_41 : decode b_Ho_overlapsAnother 41 = .ok (.if_acmp .eq 26, 3) := by decide +kernel
theorem d_Ho_overlapsAnother_44 : decode b_Ho_overlapsAnother 44 = .ok (.aload 6, 2) := by decide +kernel
theorem d_Ho_overlapsAnother_46 : decode b_Ho_overlapsAnother 46 = .ok (.aload_n 1, 1) := by decide +kernel
theorem d_Ho_overlapsAnother_47 : decode b_Ho_overlapsAnother 47 = .ok (.invokevirtual 281, 3) := by decide +kernel
theorem d_Ho_overlapsAnother_50 : decode b_Ho_overlapsAnother 50 = .ok (.ifCond .eq 17, 3) := by decide +kernel
theorem d_Ho_overlapsAnother_53 : decode b_Ho_overlapsAnother 53 = .ok (.aload 6, 2) := by decide +kernel
theorem d_Ho_overlapsAnother_55 : decode b_Ho_overlapsAnother 55 = .ok (.getfield 112, 3) := by decide +kernel
theorem d_Ho_overlapsAnother_58 : decode b_Ho_overlapsAnother 58 = .ok (.aload_n 2, 1) := by decide +kernel
theorem d_Ho_overlapsAnother_59 : decode b_Ho_overlapsAnother 59 = .ok (.invokevirtual 278, 3) := by decide +kernel
theorem d_Ho_overlapsAnother_62 : decode b_Ho_overlapsAnother 62 = .ok (.ifCond .eq 5, 3) := by decide +kernel
theorem d_Ho_overlapsAnother_65 : decode b_Ho_overlapsAnother 65 = .ok (.iconst 1, 1) := by decide +kernel
theorem d_Ho_overlapsAnother_66 : decode b_Ho_overlapsAnother 66 = .ok (.ireturn, 1) := by decide +kernel
theorem d_Ho_overlapsAnother_67 : decode b_Ho_overlapsAnother 67 = .ok (.iinc 5 1, 3) := by decide +kernel
theorem d_Ho_overlapsAnother_70 : decode b_Ho_overlapsAnother 70 = .ok (.goto (-58), 3) := by decide +kernel
theorem d_Ho_overlapsAnother_73 : decode b_Ho_overlapsAnother 73 = .ok (.iconst 0, 1) := by decide +kernel
theorem d_Ho_overlapsAnother_74 : decode b_Ho_overlapsAnother 74 = .ok (.ireturn, 1) := by decide +kernel
theorem d_Ho_shiftAll_0 : decode b_Ho_shiftAll 0 = .ok (.aload_n 0, 1) := by decide +kernel
theorem d_Ho_shiftAll_1 : decode b_Ho_shiftAll 1 = .ok (.getfield 70, 3) := by decide +kernel
theorem d_Ho_shiftAll_4 : decode b_Ho_shiftAll 4 = .ok (.astore 4, 2) := by decide +kernel
theorem d_Ho_shiftAll_6 : decode b_Ho_shiftAll 6 = .ok (.aload 4, 2) := by decide +kernel
theorem d_Ho_shiftAll_8 : decode b_Ho_shiftAll 8 = .ok (.arraylength, 1) := by decide +kernel
theorem d_Ho_shiftAll_9 : decode b_Ho_shiftAll 9 = .ok (.istore 5, 2) := by decide +kernel
theorem d_Ho_shiftAll_11 : decode b_Ho_shiftAll 11 = .ok (.iconst 0, 1) := by decide +kernel
theorem d_Ho_shiftAll_12 : decode b_Ho_shiftAll 12 = .ok (.istore 6, 2) := by decide +kernel
theorem d_Ho_shiftAll_14 : decode b_Ho_shiftAll 14 = .ok (.iload 6, 2) := by decide +kernel
theorem d_Ho_shiftAll_16 : decode b_Ho_shiftAll 16 = .ok (.iload 5, 2) := by decide +kernel
theorem d_Ho_shiftAll_18 : decode b_Ho_shiftAll 18 = .ok (.if_icmp .ge 54, 3) := by decide +kernel
theorem d_Ho_shiftAll_21 : decode b_Ho_shiftAll 21 = .ok (.aload 4, 2) := by decide +kernel
theorem d_Ho_shiftAll_23 : decode b_Ho_shiftAll 23 = .ok (.iload 6, 2) := by decide +kernel
theorem d_Ho_shiftAll_25 : decode b_Ho_shiftAll 25 = .ok (.aaload, 1) := by decide +kernel
theorem d_Ho_shiftAll_26 : decode b_Ho_shiftAll 26 = .ok (.astore 7, 2) := by decide +kernel
theorem d_Ho_shiftAll_28 : decode b_Ho_shiftAll 28 = .ok (.aload 7, 2) := by decide +kernel
theorem d_Ho_shiftAll_30 : decode b_Ho_shiftAll 30 = .ok (.ifnull 36, 3) := by decide +kernel
theorem d_Ho_shiftAll_33 : decode b_Ho_shiftAll 33 = .ok (.aload 7, 2) := by decide +kernel
theorem d_Ho_shiftAll_35 : decode b_Ho_shiftAll 35 = .ok (.getfield 172, 3) := by decide +kernel
theorem d_Ho_shiftAll_38 : decode b_Ho_shiftAll 38 = .ok (.ifCond .eq 28, 3) := by decide +kernel
theorem d_Ho_shiftAll_41 : decode b_Ho_shiftAll 41 = .ok (.aload 7, 2) := by decide +kernel
theorem d_Ho_shiftAll_43 : decode b_Ho_shiftAll 43 = .ok (.aload_n 1, 1) := by decide +kernel
theorem d_Ho_shiftAll_44 : decode b_Ho_shiftAll 44 = .ok (.invokevirtual 285, 3) := by decide +kernel
theorem d_Ho_shiftAll_47 : decode b_Ho_shiftAll 47 = .ok (.ifCond .eq 19, 3) := by decide +kernel
theorem d_Ho_shiftAll_50 : decode b_Ho_shiftAll 50 = .ok (.aload_n 0, 1) := by decide +kernel
theorem d_Ho_shiftAll_51 : decode b_Ho_shiftAll 51 = .ok (.aload 7, 2) := by decide +kernel
theorem d_Ho_shiftAll_53 : decode b_Ho_shiftAll 53 = .ok (.invokevirtual 253, 3) := by decide +kernel
theorem d_Ho_shiftAll_56 : decode b_Ho_shiftAll 56 = .ok (.aload 7, 2) := by decide +kernel
theorem d_Ho_shiftAll_58 : decode b_Ho_shiftAll 58 = .ok (.getfield 112, 3) := by decide +kernel
theorem d_Ho_shiftAll_61 : decode b_Ho_shiftAll 61 = .ok (.iload_n 2, 1) := by decide +kernel
theorem d_Ho_shiftAll_62 : decode b_Ho_shiftAll 62 = .ok (.iload_n 3, 1) := by decide +kernel
theorem d_Ho_shiftAll_63 : decode b_Ho_shiftAll 63 = .ok (.invokevirtual 288, 3) := by decide +kernel
theorem d_Ho_shiftAll_66 : decode b_Ho_shiftAll 66 = .ok (.iinc 6 1, 3) := by decide +kernel
theorem d_Ho_shiftAll_69 : decode b_Ho_shiftAll 69 = .ok (.goto (-55), 3) := by decide +kernel
theorem d_Ho_shiftAll_72 : decode b_Ho_shiftAll 72 = .ok (.return_, 1) := by decide +kernel
theorem d_Ho_removeAll_0 : decode b_Ho_removeAll 0 = .ok (.aload_n 0, 1) := by decide +kernel
theorem d_Ho_removeAll_1 : decode b_Ho_removeAll 1 = .ok (.getfield 70, 3) := by decide +kernel
theorem d_Ho_removeAll_4 : decode b_Ho_removeAll 4 = .ok (.astore_n 2, 1) := by decide +kernel
theorem d_Ho_removeAll_5 : decode b_Ho_removeAll 5 = .ok (.aload_n 2, 1) := by decide +kernel
theorem d_Ho_removeAll_6 : decode b_Ho_removeAll 6 = .ok (.arraylength, 1) := by decide +kernel
theorem d_Ho_removeAll_7 : decode b_Ho_removeAll 7 = .ok (.istore_n 3, 1) := by decide +kernel
theorem d_Ho_removeAll_8 : decode b_Ho_removeAll 8 = .ok (.iconst 0, 1) := by decide +kernel
theorem d_Ho_removeAll_9 : decode b_Ho_removeAll 9 = .ok (.istore 4, 2) := by decide +kernel
theorem d_Ho_removeAll_11 : decode b_Ho_removeAll 11 = .ok (.iload 4, 2) := by decide +kernel
theorem d_Ho_removeAll_13 : decode b_Ho_removeAll 13 = .ok (.iload_n 3, 1) := by decide +kernel
theorem d_Ho_removeAll_14 : decode b_Ho_removeAll 14 = .ok (.if_icmp .ge 49, 3) := by decide +kernel
theorem d_Ho_removeAll_17 : decode b_Ho_removeAll 17 = .ok (.aload_n 2, 1) := by decide +kernel
theorem d_Ho_removeAll_18 : decode b_Ho_removeAll 18 = .ok (.iload 4, 2) := by decide +kernel
theorem d_Ho_removeAll_20 : decode b_Ho_removeAll 20 = .ok (.aaload, 1) := by decide +kernel
theorem d_Ho_removeAll_21 : decode b_Ho_removeAll 21 = .ok (.astore 5, 2) := by decide +kernel
theorem d_Ho_removeAll_23 : decode b_Ho_removeAll 23 = .ok (.aload 5, 2) := by decide +kernel
theorem d_Ho_removeAll_25 : decode b_Ho_removeAll 25 = .ok (.ifnull 32, 3) := by decide +kernel
theorem d_Ho_removeAll_28 : decode b_Ho_removeAll 28 = .ok (.aload 5, 2) := by decide +kernel
theorem d_Ho_removeAll_30 : decode b_Ho_removeAll 30 = .ok (.getfield 172, 3) := by decide +kernel
theorem d_Ho_removeAll_33 : decode b_Ho_removeAll 33 = .ok (.ifCond .eq 24, 3) := by decide +kernel
theorem d_Ho_removeAll_36 : decode b_Ho_removeAll 36 = .ok (.aload 5, 2) := by decide +kernel
theorem d_Ho_removeAll_38 : decode b_Ho_removeAll 38 = .ok (.aload_n 1, 1) := by decide +kernel
theorem d_Ho_removeAll_39 : decode b_Ho_removeAll 39 = .ok (.invokevirtual 285, 3) := by decide +kernel
theorem d_Ho_removeAll_42 : decode b_Ho_removeAll 42 = .ok (.ifCond .eq 15, 3) := by decide +kernel
theorem d_Ho_removeAll_45 : decode b_Ho_removeAll 45 = .ok (.aload_n 0, 1) := by decide +kernel
theorem d_Ho_removeAll_46 : decode b_Ho_removeAll 46 = .ok (.aload 5, 2) := by decide +kernel
theorem d_Ho_removeAll_48 : decode b_Ho_removeAll 48 = .ok (.invokevirtual 253, 3) := by decide +kernel
theorem d_Ho_removeAll_51 : decode b_Ho_removeAll 51 = .ok (.aload 5, 2) := by decide +kernel
theorem d_Ho_removeAll_53 : decode b_Ho_removeAll 53 = .ok (.iconst 0, 1) := by decide +kernel
theorem d_Ho_removeAll_54 : decode b_Ho_removeAll 54 = .ok (.putfield 172, 3) := by decide +kernel
theorem d_Ho_removeAll_57 : decode b_Ho_removeAll 57 = .ok (.iinc 4 1, 3) := by decide +kernel
theorem d_Ho_removeAll_60 : decode b_Ho_removeAll 60 = .ok (.goto (-49), 3) := by decide +kernel
theorem d_Ho_removeAll_63 : decode b_Ho_removeAll 63 = .ok (.return_, 1) := by decide +kernel
theorem d_Ho_noteChange_0 : decode b_Ho_noteChange 0 = .ok (.aload_n 0, 1) := by decide +kernel
theorem d_Ho_noteChange_1 : decode b_Ho_noteChange 1 = .ok (.getfield 37, 3) := by decide +kernel
theorem d_Ho_noteChange_4 : decode b_Ho_noteChange 4 = .ok (.ifnull 27, 3) := by decide +kernel
theorem d_Ho_noteChange_7 : decode b_Ho_noteChange 7 = .ok (.aload_n 0, 1) := by decide +kernel
theorem d_Ho_noteChange_8 : decode b_Ho_noteChange 8 = .ok (.getfield 37, 3) := by decide +kernel
theorem d_Ho_noteChange_11 : decode b_Ho_noteChange 11 = .ok (.dup, 1) := by decide +kernel
theorem d_Ho_noteChange_12 : decode b_Ho_noteChange 12 = .ok (.getfield 212, 3) := by decide +kernel
theorem d_Ho_noteChange_15 : decode b_Ho_noteChange 15 = .ok (.iconst 1, 1) := by decide +kernel
theorem d_Ho_noteChange_16 : decode b_Ho_noteChange 16 = .ok (.iadd, 1) := by decide +kernel
theorem d_Ho_noteChange_17 : decode b_Ho_noteChange 17 = .ok (.putfield 212, 3) := by decide +kernel
theorem d_Ho_noteChange_20 : decode b_Ho_noteChange 20 = .ok (.aload_n 0, 1) := by decide +kernel
theorem d_Ho_noteChange_21 : decode b_Ho_noteChange 21 = .ok (.getfield 37, 3) := by decide +kernel
theorem d_Ho_noteChange_24 : decode b_Ho_noteChange 24 = .ok (.getfield 201, 3) := by decide +kernel
theorem d_Ho_noteChange_27 : decode b_Ho_noteChange 27 = .ok (.aload_n 1, 1) := by decide +kernel
theorem d_Ho_noteChange_28 : decode b_Ho_noteChange 28 = .ok (.invokevirtual 291, 3) := by decide +kernel
theorem d_Ho_noteChange_31 : decode b_Ho_noteChange 31 = .ok (.return_, 1) := by decide +kernel
