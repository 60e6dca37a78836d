theorem d_Mo_drop_56 : decode b_Mo_drop 56 = .ok (.iload_n 2, 1) := by decide +kernel
theorem d_Mo_drop_57 : decode b_Mo_drop 57 = .ok (.invokevirtual 189, 3) := by decide +kernel
theorem d_Mo_drop_60 : decode b_Mo_drop 60 = .ok (.ifCond .eq 7, 3) := by decide +kernel
theorem d_Mo_drop_63 : decode b_Mo_drop 63 = .ok (.iconst 3, 1) := by decide +kernel
theorem d_Mo_drop_64 : decode b_Mo_drop 64 = .ok (.goto 4, 3) := by decide +kernel
theorem d_Mo_drop_67 : decode b_Mo_drop 67 = .ok (.iconst 0, 1) := by decide +kernel
theorem d_Mo_drop_68 : decode b_Mo_drop 68 = .ok (.putfield 149, 3) := by decide +kernel
theorem d_Mo_drop_71 : decode b_Mo_drop 71 = .ok (.aload_n 0, 1) := by decide +kernel
theorem d_Mo_drop_72 : decode b_Mo_drop 72 = .ok (.getfield 149, 3) := by decide +kernel
theorem d_Mo_drop_75 : decode b_Mo_drop 75 = .ok (.ifCond .eq 5, 3) := by decide +kernel
theorem d_Mo_drop_78 : decode b_Mo_drop 78 = .ok (.iconst 0, 1) := by decide +kernel
theorem d_Mo_drop_79 : decode b_Mo_drop 79 = .ok (.ireturn, 1) := by decide +kernel
theorem d_Mo_drop_80 : decode b_Mo_drop 80 = .ok (.iconst 0, 1) := by decide +kernel
theorem d_Mo_drop_81 : decode b_Mo_drop 81 = .ok (.istore_n 3, 1) := by decide +kernel
theorem d_Mo_drop_82 : decode b_Mo_drop 82 = .ok (.iload_n 3, 1) := by decide +kernel
theorem d_Mo_drop_83 : decode b_Mo_drop 83 = .ok (.sipush 150, 3) := by decide +kernel
theorem d_Mo_drop_86 : decode b_Mo_drop 86 = .ok (.if_icmp .ge 45, 3) := by decide +kernel
theorem d_Mo_drop_89 : decode b_Mo_drop 89 = .ok (.iload_n 3, 1) := by decide +kernel
theorem d_Mo_drop_90 : decode b_Mo_drop 90 = .ok (.iload_n 2, 1) := by decide +kernel
theorem d_Mo_drop_91 : decode b_Mo_drop 91 = .ok (.if_icmp .eq 21, 3) := by decide +kernel
theorem d_Mo_drop_94 : decode b_Mo_drop 94 = .ok (.iload_n 2, 1) := by decide +kernel
theorem d_Mo_drop_95 : decode b_Mo_drop 95 = .ok (.bipush 20, 2) := by decide +kernel
theorem d_Mo_drop_97 : decode b_Mo_drop 97 = .ok (.if_icmp .ge 28, 3) := by decide +kernel
theorem d_Mo_drop_100 : decode b_Mo_drop 100 = .ok (.aload_n 0, 1) := by decide +kernel
theorem d_Mo_drop_101 : decode b_Mo_drop 101 = .ok (.iload_n 3, 1) := by decide +kernel
theorem d_Mo_drop_102 : decode b_Mo_drop 102 = .ok (.iload_n 2, 1) := by decide +kernel
theorem d_Mo_drop_103 : decode b_Mo_drop 103 = .ok (.invokevirtual 192, 3) := by decide +kernel
theorem d_Mo_drop_106 : decode b_Mo_drop 106 = .ok (.ifCond .ne 6, 3) := by decide +kernel
theorem d_Mo_drop_109 : decode b_Mo_drop 109 = .ok (.goto 16, 3) := by decide +kernel
theorem d_Mo_drop_112 : decode b_Mo_drop 112 = .ok (.aload_n 0, 1) := by decide +kernel
theorem d_Mo_drop_113 : decode b_Mo_drop 113 = .ok (.iload_n 3, 1) := by decide +kernel
theorem d_Mo_drop_114 : decode b_Mo_drop 114 = .ok (.iconst 1, 1) := by decide +kernel
theorem d_Mo_drop_115 : decode b_Mo_drop 115 = .ok (.invokevirtual 139, 3) := by decide +kernel
theorem d_Mo_drop_118 : decode b_Mo_drop 118 = .ok (.aload_n 0, 1) := by decide +kernel
theorem d_Mo_drop_119 : decode b_Mo_drop 119 = .ok (.getfield 13, 3) := by decide +kernel
theorem d_Mo_drop_122 : decode b_Mo_drop 122 = .ok (.iload_n 3, 1) := by decide +kernel
theorem d_Mo_drop_123 : decode b_Mo_drop 123 = .ok (.iconst 0, 1) := by decide +kernel
theorem d_Mo_drop_124 : decode b_Mo_drop 124 = .ok (.bastore, 1) := by decide +kernel
theorem d_Mo_drop_125 : decode b_Mo_drop 125 = .ok (.iinc 3 1, 3) := by decide +kernel
theorem d_Mo_drop_128 : decode b_Mo_drop 128 = .ok (.goto (-46), 3) := by decide +kernel
theorem d_Mo_drop_131 : decode b_Mo_drop 131 = .ok (.iconst 1, 1) := by decide +kernel
theorem d_Mo_drop_132 : decode b_Mo_drop 132 = .ok (.ireturn, 1) := by decide +kernel
theorem d_Mo_gap_0 : decode b_Mo_gap 0 = .ok (.aload_n 0, 1) := by decide +kernel
theorem d_Mo_gap_1 : decode b_Mo_gap 1 = .ok (.iload_n 1, 1) := by decide +kernel
theorem d_Mo_gap_2 : decode b_Mo_gap 2 = .ok (.ifCond .lt 8, 3) := by decide +kernel
theorem d_Mo_gap_5 : decode b_Mo_gap 5 = .ok (.iload_n 1, 1) := by decide +kernel
theorem d_Mo_gap_6 : decode b_Mo_gap 6 = .ok (.iconst 4, 1) := by decide +kernel
theorem d_Mo_gap_7 : decode b_Mo_gap 7 = .ok (.if_icmp .le 7, 3) := by decide +kernel
theorem d_Mo_gap_10 : decode b_Mo_gap 10 = .ok (.iconst 1, 1) := by decide +kernel
theorem d_Mo_gap_11 : decode b_Mo_gap 11 = .ok (.goto 4, 3) := by decide +kernel
theorem d_Mo_gap_14 : decode b_Mo_gap 14 = .ok (.iconst 0, 1) := by decide +kernel
theorem d_Mo_gap_15 : decode b_Mo_gap 15 = .ok (.putfield 100, 3) := by decide +kernel
theorem d_Mo_gap_18 : decode b_Mo_gap 18 = .ok (.aload_n 0, 1) := by decide +kernel
theorem d_Mo_gap_19 : decode b_Mo_gap 19 = .ok (.getfield 100, 3) := by decide +kernel
theorem d_Mo_gap_22 : decode b_Mo_gap 22 = .ok (.ifCond .eq 5, 3) := by decide +kernel
theorem d_Mo_gap_25 : decode b_Mo_gap 25 = .ok (.iconst 0, 1) := by decide +kernel
theorem d_Mo_gap_26 : decode b_Mo_gap 26 = .ok (.ireturn, 1) := by decide +kernel
theorem d_Mo_gap_27 : decode b_Mo_gap 27 = .ok (.aload_n 0, 1) := by decide +kernel
theorem d_Mo_gap_28 : decode b_Mo_gap 28 = .ok (.getfield 97, 3) := by decide +kernel
theorem d_Mo_gap_31 : decode b_Mo_gap 31 = .ok (.istore_n 2, 1) := by decide +kernel
theorem d_Mo_gap_32 : decode b_Mo_gap 32 = .ok (.aload_n 0, 1) := by decide +kernel
theorem d_Mo_gap_33 : decode b_Mo_gap 33 = .ok (.iload_n 1, 1) := by decide +kernel
theorem d_Mo_gap_34 : decode b_Mo_gap 34 = .ok (.putfield 97, 3) := by decide +kernel
theorem d_Mo_gap_37 : decode b_Mo_gap 37 = .ok (.iload_n 2, 1) := by decide +kernel
theorem d_Mo_gap_38 : decode b_Mo_gap 38 = .ok (.ireturn, 1) := by decide +kernel
theorem d_Mo_span_0 : decode b_Mo_span 0 = .ok (.lconst 1, 1) := by decide +kernel
theorem d_Mo_span_1 : decode b_Mo_span 1 = .ok (.iload_n 1, 1) := by decide +kernel
theorem d_Mo_span_2 : decode b_Mo_span 2 = .ok (.lshl, 1) := by decide +kernel
theorem d_Mo_span_3 : decode b_Mo_span 3 = .ok (.lconst 1, 1) := by decide +kernel
theorem d_Mo_span_4 : decode b_Mo_span 4 = .ok (.lsub, 1) := by decide +kernel
theorem d_Mo_span_5 : decode b_Mo_span 5 = .ok (.iload_n 0, 1) := by decide +kernel
theorem d_Mo_span_6 : decode b_Mo_span 6 = .ok (.lshl, 1) := by decide +kernel
theorem d_Mo_span_7 : decode b_Mo_span 7 = .ok (.lreturn, 1) := by decide +kernel
theorem d_Mo_wide_0 : decode b_Mo_wide 0 = .ok (.lload_n 0, 1) := by decide +kernel
theorem d_Mo_wide_1 : decode b_Mo_wide 1 = .ok (.lstore_n 3, 1) := by decide +kernel
theorem d_Mo_wide_2 : decode b_Mo_wide 2 = .ok (.iconst 0, 1) := by decide +kernel
theorem d_Mo_wide_3 : decode b_Mo_wide 3 = .ok (.istore 5, 2) := by decide +kernel
theorem d_Mo_wide_5 : decode b_Mo_wide 5 = .ok (.iload 5, 2) := by decide +kernel
theorem d_Mo_wide_7 : decode b_Mo_wide 7 = .ok (.iload_n 2, 1) := by decide +kernel
theorem d_Mo_wide_8 : decode b_Mo_wide 8 = .ok (.if_icmp .ge 23, 3) := by decide +kernel
theorem d_Mo_wide_11 : decode b_Mo_wide 11 = .ok (.lload_n 3, 1) := by decide +kernel
theorem d_Mo_wide_12 : decode b_Mo_wide 12 = .ok (.lload_n 3, 1) := by decide +kernel
theorem d_Mo_wide_13 : decode b_Mo_wide 13 = .ok (.iconst 1, 1) := by decide +kernel
theorem d_Mo_wide_14 : decode b_Mo_wide 14 = .ok (.lshl, 1) := by decide +kernel
theorem d_Mo_wide_15 : decode b_Mo_wide 15 = .ok (.lor, 1) := by decide +kernel
theorem d_Mo_wide_16 : decode b_Mo_wide 16 = .ok (.lload_n 3, 1) := by decide +kernel
theorem d_Mo_wide_17 : decode b_Mo_wide 17 = .ok (.iconst 1, 1) := by decide +kernel
theorem d_Mo_wide_18 : decode b_Mo_wide 18 = .ok (.lshr, 1) := by decide +kernel
theorem d_Mo_wide_19 : decode b_Mo_wide 19 = .ok (.lor, 1) := by decide +kernel
theorem d_Mo_wide_20 : decode b_Mo_wide 20 = .ok (.ldc2_w 201, 3) := by decide +kernel
theorem d_Mo_wide_23 : decode b_Mo_wide 23 = .ok (.land, 1) := by decide +kernel
theorem d_Mo_wide_24 : decode b_Mo_wide 24 = .ok (.lstore_n 3, 1) := by decide +kernel
theorem d_Mo_wide_25 : decode b_Mo_wide 25 = .ok (.iinc 5 1, 3) := by decide +kernel
theorem d_Mo_wide_28 : decode b_Mo_wide 28 = .ok (.goto (-23), 3) := by decide +kernel
theorem d_Mo_wide_31 : decode b_Mo_wide 31 = .ok (.lload_n 3, 1) := by decide +kernel
theorem d_Mo_wide_32 : decode b_Mo_wide 32 = .ok (.lreturn, 1) := by decide +kernel
theorem d_Mo_isOn_0 : decode b_Mo_isOn 0 = .ok (.iload_n 1, 1) := by decide +kernel
theorem d_Mo_isOn_1 : decode b_Mo_isOn 1 = .ok (.invokestatic 103, 3) := by decide +kernel
theorem d_Mo_isOn_4 : decode b_Mo_isOn 4 = .ok (.iconst 3, 1) := by decide +kernel
theorem d_Mo_isOn_5 : decode b_Mo_isOn 5 = .ok (.if_icmp .eq 13, 3) := by decide +kernel
theorem d_Mo_isOn_8 : decode b_Mo_isOn 8 = .ok (.aload_n 0, 1) := by decide +kernel
theorem d_Mo_isOn_9 : decode b_Mo_isOn 9 = .ok (.getfield 29, 3) := by decide +kernel
theorem d_Mo_isOn_12 : decode b_Mo_isOn 12 = .ok (.iload_n 1, 1) := by decide +kernel
theorem d_Mo_isOn_13 : decode b_Mo_isOn 13 = .ok (.iaload, 1) := by decide +kernel
theorem d_Mo_isOn_14 : decode b_Mo_isOn 14 = .ok (.iload_n 2, 1) := by decide +kernel
theorem d_Mo_isOn_15 : decode b_Mo_isOn 15 = .ok (.if_icmp .ne 7, 3) := by decide +kernel
theorem d_Mo_isOn_18 : decode b_Mo_isOn 18 = .ok (.iconst 1, 1) := by decide +kernel
theorem d_Mo_isOn_19 : decode b_Mo_isOn 19 = .ok (.goto 4, 3) := by decide +kernel
theorem d_Mo_isOn_22 : decode b_Mo_isOn 22 = .ok (.iconst 0, 1) := by decide +kernel
theorem d_Mo_isOn_23 : decode b_Mo_isOn 23 = .ok (.ireturn, 1) := by decide +kernel
theorem d_Mo_layLayer_0 : decode b_Mo_layLayer 0 = .ok (.bipush 24, 2) := by decide +kernel
theorem d_Mo_layLayer_2 : decode b_Mo_layLayer 2 = .ok (.iload_n 2, 1) := by decide +kernel
theorem d_Mo_layLayer_3 : decode b_Mo_layLayer 3 = .ok (.imul, 1) := by decide +kernel
theorem d_Mo_layLayer_4 : decode b_Mo_layLayer 4 = .ok (.istore_n 3, 1) := by decide +kernel
theorem d_Mo_layLayer_5 : decode b_Mo_layLayer 5 = .ok (.iload_n 3, 1) := by decide +kernel
theorem d_Mo_layLayer_6 : decode b_Mo_layLayer 6 = .ok (.bipush 24, 2) := by decide +kernel
theorem d_Mo_layLayer_8 : decode b_Mo_layLayer 8 = .ok (.iload_n 2, 1) := by decide +kernel
theorem d_Mo_layLayer_9 : decode b_Mo_layLayer 9 = .ok (.imul, 1) := by decide +kernel
theorem d_Mo_layLayer_10 : decode b_Mo_layLayer 10 = .ok (.bipush 24, 2) := by decide +kernel
theorem d_Mo_layLayer_12 : decode b_Mo_layLayer 12 = .ok (.iadd, 1) := by decide +kernel
theorem d_Mo_layLayer_13 : decode b_Mo_layLayer 13 = .ok (.if_icmp .ge 25, 3) := by decide +kernel
theorem d_Mo_layLayer_16 : decode b_Mo_layLayer 16 = .ok (.aload_n 0, 1) := by decide +kernel
theorem d_Mo_layLayer_17 : decode b_Mo_layLayer 17 = .ok (.getfield 84, 3) := by decide +kernel
theorem d_Mo_layLayer_20 : decode b_Mo_layLayer 20 = .ok (.iload_n 3, 1) := by decide +kernel
theorem d_Mo_layLayer_21 : decode b_Mo_layLayer 21 = .ok (.lconst 0, 1) := by decide +kernel
theorem d_Mo_layLayer_22 : decode b_Mo_layLayer 22 = .ok (.lastore, 1) := by decide +kernel
theorem d_Mo_layLayer_23 : decode b_Mo_layLayer 23 = .ok (.aload_n 0, 1) := by decide +kernel
theorem d_Mo_layLayer_24 : decode b_Mo_layLayer 24 = .ok (.getfield 88, 3) := by decide +kernel
theorem d_Mo_layLayer_27 : decode b_Mo_layLayer 27 = .ok (.iload_n 3, 1) := by decide +kernel
theorem d_Mo_layLayer_28 : decode b_Mo_layLayer 28 = .ok (.ldc2_w 201, 3) := by decide +kernel
theorem d_Mo_layLayer_31 : decode b_Mo_layLayer 31 = .ok (.lastore, 1) := by decide +kernel
theorem d_Mo_layLayer_32 : decode b_Mo_layLayer 32 = .ok (.iinc 3 1, 3) := by decide +kernel
theorem d_Mo_layLayer_35 : decode b_Mo_layLayer 35 = .ok (.goto (-30), 3) := by decide +kernel
theorem d_Mo_layLayer_38 : decode b_Mo_layLayer 38 = .ok (.bipush 20, 2) := by decide +kernel
theorem d_Mo_layLayer_40 : decode b_Mo_layLayer 40 = .ok (.istore_n 3, 1) := by decide +kernel
theorem d_Mo_layLayer_41 : decode b_Mo_layLayer 41 = .ok (.iload_n 3, 1) := by decide +kernel
theorem d_Mo_layLayer_42 : decode b_Mo_layLayer 42 = .ok (.sipush 140, 3) := by decide +kernel
theorem d_Mo_layLayer_45 : decode b_Mo_layLayer 45 = .ok (.if_icmp .ge 210, 3) := by decide +kernel
theorem d_Mo_layLayer_48 : decode b_Mo_layLayer 48 = .ok (.aload_n 0, 1) := by decide +kernel
theorem d_Mo_layLayer_49 : decode b_Mo_layLayer 49 = .ok (.iload_n 3, 1) := by decide +kernel
theorem d_Mo_layLayer_50 : decode b_Mo_layLayer 50 = .ok (.invokevirtual 133, 3) := by decide +kernel
theorem d_Mo_layLayer_53 : decode b_Mo_layLayer 53 = .ok (.ifCond .eq 196, 3) := by decide +kernel
theorem d_Mo_layLayer_56 : decode b_Mo_layLayer 56 = .ok (.aload_n 0, 1) := by decide +kernel
theorem d_Mo_layLayer_57 : decode b_Mo_layLayer 57 = .ok (.iload_n 3, 1) := by decide +kernel
theorem d_Mo_layLayer_58 : decode b_Mo_layLayer 58 = .ok (.iload_n 2, 1) := by decide +kernel
theorem d_Mo_layLayer_59 : decode b_Mo_layLayer 59 = .ok (.invokevirtual 203, 3) := by decide +kernel
theorem d_Mo_layLayer_62 : decode b_Mo_layLayer 62 = .ok (.ifCond .ne 6, 3) := by decide +kernel
theorem d_Mo_layLayer_65 : decode b_Mo_layLayer 65 = .ok (.goto 184, 3) := by decide +kernel
theorem d_Mo_layLayer_68 : decode b_Mo_layLayer 68 = .ok (.aload_n 0, 1) := by decide +kernel
theorem d_Mo_layLayer_69 : decode b_Mo_layLayer 69 = .ok (.getfield 17, 3) := by decide +kernel
theorem d_Mo_layLayer_72 : decode b_Mo_layLayer 72 = .ok (.iload_n 3, 1) := by decide +kernel
theorem d_Mo_layLayer_73 : decode b_Mo_layLayer 73 = .ok (.iaload, 1) := by decide +kernel
theorem d_Mo_layLayer_74 : decode b_Mo_layLayer 74 = .ok (.aload_n 0, 1) := by decide +kernel
theorem d_Mo_layLayer_75 : decode b_Mo_layLayer 75 = .ok (.getfield 23, 3) := by decide +kernel
theorem d_Mo_layLayer_78 : decode b_Mo_layLayer 78 = .ok (.iload_n 3, 1) := by decide +kernel
theorem d_Mo_layLayer_79 : decode b_Mo_layLayer 79 = .ok (.iaload, 1) := by decide +kernel
theorem d_Mo_layLayer_80 : decode b_Mo_layLayer 80 = .ok (.invokestatic 206, 3) := by decide +kernel
theorem d_Mo_layLayer_83 : decode b_Mo_layLayer 83 = .ok (.lstore 4, 2) := by decide +kernel
theorem d_Mo_layLayer_85 : decode b_Mo_layLayer 85 = .ok (.aload_n 0, 1) := by decide +kernel
theorem d_Mo_layLayer_86 : decode b_Mo_layLayer 86 = .ok (.getfield 32, 3) := by decide +kernel
theorem d_Mo_layLayer_89 : decode b_Mo_layLayer 89 = .ok (.iload_n 3, 1) := by decide +kernel
theorem d_Mo_layLayer_90 : decode b_Mo_layLayer 90 = .ok (.iaload, 1) := by decide +kernel
theorem d_Mo_layLayer_91 : decode b_Mo_layLayer 91 = .ok (.iload_n 1, 1) := by decide +kernel
theorem d_Mo_layLayer_92 : decode b_Mo_layLayer 92 = .ok (.if_icmp .ne 65, 3) := by decide +kernel
theorem d_Mo_layLayer_95 : decode b_Mo_layLayer 95 = .ok (.aload_n 0, 1) := by decide +kernel
theorem d_Mo_layLayer_96 : decode b_Mo_layLayer 96 = .ok (.getfield 20, 3) := by decide +kernel
theorem d_Mo_layLayer_99 : decode b_Mo_layLayer 99 = .ok (.iload_n 3, 1) := by decide +kernel
theorem d_Mo_layLayer_100 : decode b_Mo_layLayer 100 = .ok (.iaload, 1) := by decide +kernel
theorem d_Mo_layLayer_101 : decode b_Mo_layLayer 101 = .ok (.istore 6, 2) := by decide +kernel
theorem d_Mo_layLayer_103 : decode b_Mo_layLayer 103 = .ok (.iload 6, 2) := by decide +kernel
theorem d_Mo_layLayer_105 : decode b_Mo_layLayer 105 = .ok (.aload_n 0, 1) := by decide +kernel
theorem d_Mo_layLayer_106 : decode b_Mo_layLayer 106 = .ok (.getfield 20, 3) := by decide +kernel
theorem d_Mo_layLayer_109 : decode b_Mo_layLayer 109 = .ok (.iload_n 3, 1) := by decide +kernel
theorem d_Mo_layLayer_110 : decode b_Mo_layLayer 110 = .ok (.iaload, 1) := by decide +kernel
theorem d_Mo_layLayer_111 : decode b_Mo_layLayer 111 = .ok (.aload_n 0, 1) := by decide +kernel
theorem d_Mo_layLayer_112 : decode b_Mo_layLayer 112 = .ok (.getfield 26, 3) := by decide +kernel
theorem d_Mo_layLayer_115 : decode b_Mo_layLayer 115 = .ok (.iload_n 3, 1) := by decide +kernel
theorem d_Mo_layLayer_116 : decode b_Mo_layLayer 116 = .ok (.iaload, 1) := by decide +kernel
theorem d_Mo_layLayer_117 : decode b_Mo_layLayer 117 = .ok (.iadd, 1) := by decide +kernel
theorem d_Mo_layLayer_118 : decode b_Mo_layLayer 118 = .ok (.if_icmp .ge 36, 3) := by decide +kernel
theorem d_Mo_layLayer_121 : decode b_Mo_layLayer 121 = .ok (.aload_n 0, 1) := by decide +kernel
theorem d_Mo_layLayer_122 : decode b_Mo_layLayer 122 = .ok (.getfield 84, 3) := by decide +kernel
theorem d_Mo_layLayer_125 : decode b_Mo_layLayer 125 = .ok (.bipush 24, 2) := by decide +kernel
theorem d_Mo_layLayer_127 : decode b_Mo_layLayer 127 = .ok (.iload_n 2, 1) := by decide +kernel
theorem d_Mo_layLayer_128 : decode b_Mo_layLayer 128 = .ok (.imul, 1) := by decide +kernel
theorem d_Mo_layLayer_129 : decode b_Mo_layLayer 129 = .ok (.iload 6, 2) := by decide +kernel
theorem d_Mo_layLayer_131 : decode b_Mo_layLayer 131 = .ok (.iadd, 1) := by decide +kernel
theorem d_Mo_layLayer_132 : decode b_Mo_layLayer 132 = .ok (.aload_n 0, 1) := by decide +kernel
theorem d_Mo_layLayer_133 : decode b_Mo_layLayer 133 = .ok (.getfield 84, 3) := by decide +kernel
theorem d_Mo_layLayer_136 : decode b_Mo_layLayer 136 = .ok (.bipush 24, 2) := by decide +kernel
theorem d_Mo_layLayer_138 : decode b_Mo_layLayer 138 = .ok (.iload_n 2, 1) := by decide +kernel
theorem d_Mo_layLayer_139 : decode b_Mo_layLayer 139 = .ok (.imul, 1) := by decide +kernel
theorem d_Mo_layLayer_140 : decode b_Mo_layLayer 140 = .ok (.iload 6, 2) := by decide +kernel
theorem d_Mo_layLayer_142 : decode b_Mo_layLayer 142 = .ok (.iadd, 1) := by decide +kernel
theorem d_Mo_layLayer_143 : decode b_Mo_layLayer 143 = .ok (.laload, 1) := by decide +kernel
theorem d_Mo_layLayer_144 : decode b_Mo_layLayer 144 = .ok (.lload 4, 2) := by decide +kernel
theorem d_Mo_layLayer_146 : decode b_Mo_layLayer 146 = .ok (.lor, 1) := by decide +kernel
theorem d_Mo_layLayer_147 : decode b_Mo_layLayer 147 = .ok (.lastore, 1) := by decide +kernel
theorem d_Mo_layLayer_148 : decode b_Mo_layLayer 148 = .ok (.iinc 6 1, 3) := by decide +kernel
theorem d_Mo_layLayer_151 : decode b_Mo_layLayer 151 = .ok (.goto (-48), 3) := by decide +kernel
theorem d_Mo_layLayer_154 : decode b_Mo_layLayer 154 = .ok (.goto 95, 3) := by decide +kernel
theorem d_Mo_layLayer_157 : decode b_Mo_layLayer 157 = .ok (.aload_n 0, 1) := by decide +kernel
theorem d_Mo_layLayer_158 : decode b_Mo_layLayer 158 = .ok (.getfield 20, 3) := by decide +kernel
theorem d_Mo_layLayer_161 : decode b_Mo_layLayer 161 = .ok (.iload_n 3, 1) := by decide +kernel
theorem d_Mo_layLayer_162 : decode b_Mo_layLayer 162 = .ok (.iaload, 1) := by decide +kernel
theorem d_Mo_layLayer_163 : decode b_Mo_layLayer 163 = .ok (.aload_n 0, 1) := by decide +kernel
theorem d_Mo_layLayer_164 : decode b_Mo_layLayer 164 = .ok (.getfield 97, 3) := by decide +kernel
theorem d_Mo_layLayer_167 : decode b_Mo_layLayer 167 = .ok (.isub, 1) := by decide +kernel
theorem d_Mo_layLayer_168 : decode b_Mo_layLayer 168 = .ok (.istore 6, 2) := by decide +kernel
theorem d_Mo_layLayer_170 : decode b_Mo_layLayer 170 = .ok (.iload 6, 2) := by decide +kernel
theorem d_Mo_layLayer_172 : decode b_Mo_layLayer 172 = .ok (.aload_n 0, 1) := by decide +kernel
theorem d_Mo_layLayer_173 : decode b_Mo_layLayer 173 = .ok (.getfield 20, 3) := by decide +kernel
theorem d_Mo_layLayer_176 : decode b_Mo_layLayer 176 = .ok (.iload_n 3, 1) := by decide +kernel
theorem d_Mo_layLayer_177 : decode b_Mo_layLayer 177 = .ok (.iaload, 1) := by decide +kernel
theorem d_Mo_layLayer_178 : decode b_Mo_layLayer 178 = .ok (.aload_n 0, 1) := by decide +kernel
theorem d_Mo_layLayer_179 : decode b_Mo_layLayer 179 = .ok (.getfield 26, 3) := by decide +kernel
theorem d_Mo_layLayer_182 : decode b_Mo_layLayer 182 = .ok (.iload_n 3, 1) := by decide +kernel
theorem d_Mo_layLayer_183 : decode b_Mo_layLayer 183 = .ok (.iaload, 1) := by decide +kernel
theorem d_Mo_layLayer_184 : decode b_Mo_layLayer 184 = .ok (.iadd, 1) := by decide +kernel
theorem d_Mo_layLayer_185 : decode b_Mo_layLayer 185 = .ok (.aload_n 0, 1) := by decide +kernel
theorem d_Mo_layLayer_186 : decode b_Mo_layLayer 186 = .ok (.getfield 97, 3) := by decide +kernel
theorem d_Mo_layLayer_189 : decode b_Mo_layLayer 189 = .ok (.iadd, 1) := by decide +kernel
theorem d_Mo_layLayer_190 : decode b_Mo_layLayer 190 = .ok (.if_icmp .ge 59, 3) := by decide +kernel
theorem d_Mo_layLayer_193 : decode b_Mo_layLayer 193 = .ok (.iload 6, 2) := by decide +kernel
theorem d_Mo_layLayer_195 : decode b_Mo_layLayer 195 = .ok (.ifCond .lt 48, 3) := by decide +kernel
theorem d_Mo_layLayer_198 : decode b_Mo_layLayer 198 = .ok (.iload 6, 2) := by decide +kernel
theorem d_Mo_layLayer_200 : decode b_Mo_layLayer 200 = .ok (.bipush 24, 2) := by decide +kernel
theorem d_Mo_layLayer_202 : decode b_Mo_layLayer 202 = .ok (.if_icmp .ge 41, 3) := by decide +kernel
theorem d_Mo_layLayer_205 : decode b_Mo_layLayer 205 = .ok (.aload_n 0, 1) := by decide +kernel
theorem d_Mo_layLayer_206 : decode b_Mo_layLayer 206 = .ok (.getfield 88, 3) := by decide +kernel
theorem d_Mo_layLayer_209 : decode b_Mo_layLayer 209 = .ok (.bipush 24, 2) := by decide +kernel
theorem d_Mo_layLayer_211 : decode b_Mo_layLayer 211 = .ok (.iload_n 2, 1) := by decide +kernel
theorem d_Mo_layLayer_212 : decode b_Mo_layLayer 212 = .ok (.imul, 1) := by decide +kernel
theorem d_Mo_layLayer_213 : decode b_Mo_layLayer 213 = .ok (.iload 6, 2) := by decide +kernel
theorem d_Mo_layLayer_215 : decode b_Mo_layLayer 215 = .ok (.iadd, 1) := by decide +kernel
theorem d_Mo_layLayer_216 : decode b_Mo_layLayer 216 = .ok (.aload_n 0, 1) := by decide +kernel
theorem d_Mo_layLayer_217 : decode b_Mo_layLayer 217 = .ok (.getfield 88, 3) := by decide +kernel
theorem d_Mo_layLayer_220 : decode b_Mo_layLayer 220 = .ok (.bipush 24, 2) := by decide +kernel
theorem d_Mo_layLayer_222 : decode b_Mo_layLayer 222 = .ok (.iload_n 2, 1) := by decide +kernel
theorem d_Mo_layLayer_223 : decode b_Mo_layLayer 223 = .ok (.imul, 1) := by decide +kernel
theorem d_Mo_layLayer_224 : decode b_Mo_layLayer 224 = .ok (.iload 6, 2) := by decide +kernel
theorem d_Mo_layLayer_226 : decode b_Mo_layLayer 226 = .ok (.iadd, 1) := by decide +kernel
theorem d_Mo_layLayer_227 : decode b_Mo_layLayer 227 = .ok (.laload, 1) := by decide +kernel
theorem d_Mo_layLayer_228 : decode b_Mo_layLayer 228 = .ok (.lload 4, 2) := by decide +kernel
theorem d_Mo_layLayer_230 : decode b_Mo_layLayer 230 = .ok (.aload_n 0, 1) := by decide +kernel
theorem d_Mo_layLayer_231 : decode b_Mo_layLayer 231 = .ok (.getfield 97, 3) := by decide +kernel
theorem d_Mo_layLayer_234 : decode b_Mo_layLayer 234 = .ok (.invokestatic 210, 3) := by decide +kernel
theorem d_Mo_layLayer_237 : decode b_Mo_layLayer 237 = .ok (.ldc2_w 214, 3) := by decide +kernel
theorem d_Mo_layLayer_240 : decode b_Mo_layLayer 240 = .ok (.lxor, 1) := by decide +kernel
theorem d_Mo_layLayer_241 : decode b_Mo_layLayer 241 = .ok (.land, 1) := by decide +kernel
theorem d_Mo_layLayer_242 : decode b_Mo_layLayer 242 = .ok (.lastore, 1) := by decide +kernel
theorem d_Mo_layLayer_243 : decode b_Mo_layLayer 243 = .ok (.iinc 6 1, 3) := by decide +kernel
theorem d_Mo_layLayer_246 : decode b_Mo_layLayer 246 = .ok (.goto (-76), 3) := by decide +kernel
theorem d_Mo_layLayer_249 : decode b_Mo_layLayer 249 = .ok (.iinc 3 1, 3) := by decide +kernel
theorem d_Mo_layLayer_252 : decode b_Mo_layLayer 252 = .ok (.goto (-211), 3) := by decide +kernel
theorem d_Mo_layLayer_255 : decode b_Mo_layLayer 255 = .ok (.return_, 1) := by decide +kernel
theorem d_Mo_grow_0 : decode b_Mo_grow 0 = .ok (.iconst 0, 1) := by decide +kernel
theorem d_Mo_grow_1 : decode b_Mo_grow 1 = .ok (.istore_n 2, 1) := by decide +kernel
theorem d_Mo_grow_2 : decode b_Mo_grow 2 = .ok (.iconst 0, 1) := by decide +kernel
theorem d_Mo_grow_3 : decode b_Mo_grow 3 = .ok (.istore_n 3, 1) := by decide +kernel
theorem d_Mo_grow_4 : decode b_Mo_grow 4 = .ok (.iload_n 3, 1) := by decide +kernel
theorem d_Mo_grow_5 : decode b_Mo_grow 5 = .ok (.bipush 24, 2) := by decide +kernel
theorem d_Mo_grow_7 : decode b_Mo_grow 7 = .ok (.if_icmp .ge 112, 3) := by decide +kernel
theorem d_Mo_grow_10 : decode b_Mo_grow 10 = .ok (.bipush 24, 2) := by decide +kernel
theorem d_Mo_grow_12 : decode b_Mo_grow 12 = .ok (.iload_n 1, 1) := by decide +kernel
theorem d_Mo_grow_13 : decode b_Mo_grow 13 = .ok (.imul, 1) := by decide +kernel
theorem d_Mo_grow_14 : decode b_Mo_grow 14 = .ok (.iload_n 3, 1) := by decide +kernel
theorem d_Mo_grow_15 : decode b_Mo_grow 15 = .ok (.iadd, 1) := by decide +kernel
theorem d_Mo_grow_16 : decode b_Mo_grow 16 = .ok (.istore 4, 2) := by decide +kernel
theorem d_Mo_grow_18 : decode b_Mo_grow 18 = .ok (.aload_n 0, 1) := by decide +kernel
theorem d_Mo_grow_19 : decode b_Mo_grow 19 = .ok (.getfield 91, 3) := by decide +kernel
theorem d_Mo_grow_22 : decode b_Mo_grow 22 = .ok (.iload 4, 2) := by decide +kernel
theorem d_Mo_grow_24 : decode b_Mo_grow 24 = .ok (.laload, 1) := by decide +kernel
theorem d_Mo_grow_25 : decode b_Mo_grow 25 = .ok (.iconst 1, 1) := by decide +kernel
theorem d_Mo_grow_26 : decode b_Mo_grow 26 = .ok (.invokestatic 210, 3) := by decide +kernel
theorem d_Mo_grow_29 : decode b_Mo_grow 29 = .ok (.iload_n 3, 1) := by decide +kernel
theorem d_Mo_grow_30 : decode b_Mo_grow 30 = .ok (.ifCond .le 15, 3) := by decide +kernel
theorem d_Mo_grow_33 : decode b_Mo_grow 33 = .ok (.aload_n 0, 1) := by decide +kernel
theorem d_Mo_grow_34 : decode b_Mo_grow 34 = .ok (.getfield 91, 3) := by decide +kernel
theorem d_Mo_grow_37 : decode b_Mo_grow 37 = .ok (.iload 4, 2) := by decide +kernel
theorem d_Mo_grow_39 : decode b_Mo_grow 39 = .ok (.iconst 1, 1) := by decide +kernel
theorem d_Mo_grow_40 : decode b_Mo_grow 40 = .ok (.isub, 1) := by decide +kernel
theorem d_Mo_grow_41 : decode b_Mo_grow 41 = .ok (.laload, 1) := by decide +kernel
theorem d_Mo_grow_42 : decode b_Mo_grow 42 = .ok (.goto 4, 3) := by decide +kernel
theorem d_Mo_grow_45 : decode b_Mo_grow 45 = .ok (.lconst 0, 1) := by decide +kernel
theorem d_Mo_grow_46 : decode b_Mo_grow 46 = .ok (.lor, 1) := by decide +kernel
theorem d_Mo_grow_47 : decode b_Mo_grow 47 = .ok (.iload_n 3, 1) := by decide +kernel
theorem d_Mo_grow_48 : decode b_Mo_grow 48 = .ok (.bipush 23, 2) := by decide +kernel
theorem d_Mo_grow_50 : decode b_Mo_grow 50 = .ok (.if_icmp .ge 15, 3) := by decide +kernel
theorem d_Mo_grow_53 : decode b_Mo_grow 53 = .ok (.aload_n 0, 1) := by decide +kernel
theorem d_Mo_grow_54 : decode b_Mo_grow 54 = .ok (.getfield 91, 3) := by decide +kernel
theorem d_Mo_grow_57 : decode b_Mo_grow 57 = .ok (.iload 4, 2) := by decide +kernel
theorem d_Mo_grow_59 : decode b_Mo_grow 59 = .ok (.iconst 1, 1) := by decide +kernel
theorem d_Mo_grow_60 : decode b_Mo_grow 60 = .ok (.iadd, 1) := by decide +kernel
theorem d_Mo_grow_61 : decode b_Mo_grow 61 = .ok (.laload, 1) := by decide +kernel
theorem d_Mo_grow_62 : decode b_Mo_grow 62 = .ok (.goto 4, 3) := by decide +kernel
theorem d_Mo_grow_65 : decode b_Mo_grow 65 = .ok (.lconst 0, 1) := by decide +kernel
theorem d_Mo_grow_66 : decode b_Mo_grow 66 = .ok (.lor, 1) := by decide +kernel
theorem d_Mo_grow_67 : decode b_Mo_grow 67 = .ok (.lstore 5, 2) := by decide +kernel
theorem d_Mo_grow_69 : decode b_Mo_grow 69 = .ok (.lload 5, 2) := by decide +kernel
theorem d_Mo_grow_71 : decode b_Mo_grow 71 = .ok (.aload_n 0, 1) := by decide +kernel
theorem d_Mo_grow_72 : decode b_Mo_grow 72 = .ok (.getfield 88, 3) := by decide +kernel
theorem d_Mo_grow_75 : decode b_Mo_grow 75 = .ok (.iload 4, 2) := by decide +kernel
theorem d_Mo_grow_77 : decode b_Mo_grow 77 = .ok (.laload, 1) := by decide +kernel
theorem d_Mo_grow_78 : decode b_Mo_grow 78 = .ok (.land, 1) := by decide +kernel
theorem d_Mo_grow_79 : decode b_Mo_grow 79 = .ok (.lstore 5, 2) := by decide +kernel
theorem d_Mo_grow_81 : decode b_Mo_grow 81 = .ok (.iload_n 2, 1) := by decide +kernel
theorem d_Mo_grow_82 : decode b_Mo_grow 82 = .ok (.ifCond .ne 16, 3) := by decide +kernel
theorem d_Mo_grow_85 : decode b_Mo_grow 85 = .ok (.lload 5, 2) := by decide +kernel
theorem d_Mo_grow_87 : decode b_Mo_grow 87 = .ok (.aload_n 0, 1) := by decide +kernel
theorem d_Mo_grow_88 : decode b_Mo_grow 88 = .ok (.getfield 91, 3) := by decide +kernel
theorem d_Mo_grow_91 : decode b_Mo_grow 91 = .ok (.iload 4, 2) := by decide +kernel
theorem d_Mo_grow_93 : decode b_Mo_grow 93 = .ok (.laload, 1) := by decide +kernel
theorem d_Mo_grow_94 : decode b_Mo_grow 94 = .ok (.lcmp, 1) := by decide +kernel
theorem d_Mo_grow_95 : decode b_Mo_grow 95 = .ok (.ifCond .eq 7, 3) := by decide +kernel
theorem d_Mo_grow_98 : decode b_Mo_grow 98 = .ok (.iconst 1, 1) := by decide +kernel
theorem d_Mo_grow_99 : decode b_Mo_grow 99 = .ok (.goto 4, 3) := by decide +kernel
theorem d_Mo_grow_102 : decode b_Mo_grow 102 = .ok (.iconst 0, 1) := by decide +kernel
theorem d_Mo_grow_103 : decode b_Mo_grow 103 = .ok (.istore_n 2, 1) := by decide +kernel
theorem d_Mo_grow_104 : decode b_Mo_grow 104 = .ok (.aload_n 0, 1) := by decide +kernel
theorem d_Mo_grow_105 : decode b_Mo_grow 105 = .ok (.getfield 91, 3) := by decide +kernel
theorem d_Mo_grow_108 : decode b_Mo_grow 108 = .ok (.iload 4, 2) := by decide +kernel
theorem d_Mo_grow_110 : decode b_Mo_grow 110 = .ok (.lload 5, 2) := by decide +kernel
theorem d_Mo_grow_112 : decode b_Mo_grow 112 = .ok (.lastore, 1) := by decide +kernel
theorem d_Mo_grow_113 : decode b_Mo_grow 113 = .ok (.iinc 3 1, 3) := by decide +kernel
theorem d_Mo_grow_116 : decode b_Mo_grow 116 = .ok (.goto (-112), 3) := by decide +kernel
theorem d_Mo_grow_119 : decode b_Mo_grow 119 = .ok (.iload_n 2, 1) := by decide +kernel
theorem d_Mo_grow_120 : decode b_Mo_grow 120 = .ok (.ireturn, 1) := by decide +kernel
theorem d_Mo_fill_0 : decode b_Mo_fill 0 = .ok (.aload_n 0, 1) := by decide +kernel
theorem d_Mo_fill_1 : decode b_Mo_fill 1 = .ok (.iload_n 1, 1) := by decide +kernel
theorem d_Mo_fill_2 : decode b_Mo_fill 2 = .ok (.iload_n 2, 1) := by decide +kernel
theorem d_Mo_fill_3 : decode b_Mo_fill 3 = .ok (.invokevirtual 216, 3) := by decide +kernel
theorem d_Mo_fill_6 : decode b_Mo_fill 6 = .ok (.bipush 24, 2) := by decide +kernel
theorem d_Mo_fill_8 : decode b_Mo_fill 8 = .ok (.iload_n 2, 1) := by decide +kernel
theorem d_Mo_fill_9 : decode b_Mo_fill 9 = .ok (.imul, 1) := by decide +kernel
theorem d_Mo_fill_10 : decode b_Mo_fill 10 = .ok (.istore_n 3, 1) := by decide +kernel
theorem d_Mo_fill_11 : decode b_Mo_fill 11 = .ok (.iload_n 3, 1) := by decide +kernel
theorem d_Mo_fill_12 : decode b_Mo_fill 12 = .ok (.bipush 24, 2) := by decide +kernel
theorem d_Mo_fill_14 : decode b_Mo_fill 14 = .ok (.iload_n 2, 1) := by decide +kernel
theorem d_Mo_fill_15 : decode b_Mo_fill 15 = .ok (.imul, 1) := by decide +kernel
theorem d_Mo_fill_16 : decode b_Mo_fill 16 = .ok (.bipush 24, 2) := by decide +kernel
theorem d_Mo_fill_18 : decode b_Mo_fill 18 = .ok (.iadd, 1) := by decide +kernel
theorem d_Mo_fill_19 : decode b_Mo_fill 19 = .ok (.if_icmp .ge 28, 3) := by decide +kernel
theorem d_Mo_fill_22 : decode b_Mo_fill 22 = .ok (.aload_n 0, 1) := by decide +kernel
theorem d_Mo_fill_23 : decode b_Mo_fill 23 = .ok (.getfield 91, 3) := by decide +kernel
theorem d_Mo_fill_26 : decode b_Mo_fill 26 = .ok (.iload_n 3, 1) := by decide +kernel
theorem d_Mo_fill_27 : decode b_Mo_fill 27 = .ok (.aload_n 0, 1) := by decide +kernel
theorem d_Mo_fill_28 : decode b_Mo_fill 28 = .ok (.getfield 84, 3) := by decide +kernel
theorem d_Mo_fill_31 : decode b_Mo_fill 31 = .ok (.iload_n 3, 1) := by decide +kernel
theorem d_Mo_fill_32 : decode b_Mo_fill 32 = .ok (.laload, 1) := by decide +kernel
theorem d_Mo_fill_33 : decode b_Mo_fill 33 = .ok (.aload_n 0, 1) := by decide +kernel
theorem d_Mo_fill_34 : decode b_Mo_fill 34 = .ok (.getfield 88, 3) := by decide +kernel
theorem d_Mo_fill_37 : decode b_Mo_fill 37 = .ok (.iload_n 3, 1) := by decide +kernel
theorem d_Mo_fill_38 : decode b_Mo_fill 38 = .ok (.laload, 1) := by decide +kernel
theorem d_Mo_fill_39 : decode b_Mo_fill 39 = .ok (.land, 1) := by decide +kernel
theorem d_Mo_fill_40 : decode b_Mo_fill 40 = .ok (.lastore, 1) := by decide +kernel
theorem d_Mo_fill_41 : decode b_Mo_fill 41 = .ok (.iinc 3 1, 3) := by decide +kernel
theorem d_Mo_fill_44 : decode b_Mo_fill 44 = .ok (.goto (-33), 3) := by decide +kernel
theorem d_Mo_fill_47 : decode b_Mo_fill 47 = .ok (.iconst 1, 1) := by decide +kernel
theorem d_Mo_fill_48 : decode b_Mo_fill 48 = .ok (.istore_n 3, 1) := by decide +kernel
theorem d_Mo_fill_49 : decode b_Mo_fill 49 = .ok (.iload_n 3, 1) := by decide +kernel
theorem d_Mo_fill_50 : decode b_Mo_fill 50 = .ok (.ifCond .eq 12, 3) := by decide +kernel
theorem d_Mo_fill_53 : decode b_Mo_fill 53 = .ok (.aload_n 0, 1) := by decide +kernel
theorem d_Mo_fill_54 : decode b_Mo_fill 54 = .ok (.iload_n 2, 1) := by decide +kernel
theorem d_Mo_fill_55 : decode b_Mo_fill 55 = .ok (.invokevirtual 220, 3) := by decide +kernel
theorem d_Mo_fill_58 : decode b_Mo_fill 58 = .ok (.istore_n 3, 1) := by decide +kernel
theorem d_Mo_fill_59 : decode b_Mo_fill 59 = .ok (.goto (-10), 3) := by decide +kernel
theorem d_Mo_fill_62 : decode b_Mo_fill 62 = .ok (.return_, 1) := by decide +kernel
theorem d_Mo_count_0 : decode b_Mo_count 0 = .ok (.iconst 0, 1) := by decide +kernel
theorem d_Mo_count_1 : decode b_Mo_count 1 = .ok (.istore_n 2, 1) := by decide +kernel
theorem d_Mo_count_2 : decode b_Mo_count 2 = .ok (.lload_n 0, 1) := by decide +kernel
theorem d_Mo_count_3 : decode b_Mo_count 3 = .ok (.lstore_n 3, 1) := by decide +kernel
theorem d_Mo_count_4 : decode b_Mo_count 4 = .ok (.lload_n 3, 1) := by decide +kernel
theorem d_Mo_count_5 : decode b_Mo_count 5 = .ok (.lconst 0, 1) := by decide +kernel
theorem d_Mo_count_6 : decode b_Mo_count 6 = .ok (.lcmp, 1) := by decide +kernel
theorem d_Mo_count_7 : decode b_Mo_count 7 = .ok (.ifCond .eq 15, 3) := by decide +kernel
theorem d_Mo_count_10 : decode b_Mo_count 10 = .ok (.iinc 2 1, 3) := by decide +kernel
theorem d_Mo_count_13 : decode b_Mo_count 13 = .ok (.lload_n 3, 1) := by decide +kernel
theorem d_Mo_count_14 : decode b_Mo_count 14 = .ok (.lload_n 3, 1) := by decide +kernel
theorem d_Mo_count_15 : decode b_Mo_count 15 = .ok (.lconst 1, 1) := by decide +kernel
theorem d_Mo_count_16 : decode b_Mo_count 16 = .ok (.lsub, 1) := by decide +kernel
theorem d_Mo_count_17 : decode b_Mo_count 17 = .ok (.land, 1) := by decide +kernel
theorem d_Mo_count_18 : decode b_Mo_count 18 = .ok (.lstore_n 3, 1) := by decide +kernel
theorem d_Mo_count_19 : decode b_Mo_count 19 = .ok (.goto (-15), 3) := by decide +kernel
theorem d_Mo_count_22 : decode b_Mo_count 22 = .ok (.iload_n 2, 1) := by decide +kernel
theorem d_Mo_count_23 : decode b_Mo_count 23 = .ok (.ireturn, 1) := by decide +kernel
theorem d_Mo_filled_0 : decode b_Mo_filled 0 = .ok (.aload_n 0, 1) := by decide +kernel
theorem d_Mo_filled_1 : decode b_Mo_filled 1 = .ok (.aload_n 0, 1) := by decide +kernel
theorem d_Mo_filled_2 : decode b_Mo_filled 2 = .ok (.iload_n 1, 1) := by decide +kernel
theorem d_Mo_filled_3 : decode b_Mo_filled 3 = .ok (.iconst 5, 1) := by decide +kernel
theorem d_Mo_filled_4 : decode b_Mo_filled 4 = .ok (.invokevirtual 176, 3) := by decide +kernel
theorem d_Mo_filled_7 : decode b_Mo_filled 7 = .ok (.putfield 100, 3) := by decide +kernel
theorem d_Mo_filled_10 : decode b_Mo_filled 10 = .ok (.aload_n 0, 1) := by decide +kernel
theorem d_Mo_filled_11 : decode b_Mo_filled 11 = .ok (.aload_n 0, 1) := by decide +kernel
theorem d_Mo_filled_12 : decode b_Mo_filled 12 = .ok (.getfield 100, 3) := by decide +kernel
theorem d_Mo_filled_15 : decode b_Mo_filled 15 = .ok (.ifCond .ne 24, 3) := by decide +kernel
theorem d_Mo_filled_18 : decode b_Mo_filled 18 = .ok (.aload_n 0, 1) := by decide +kernel
theorem d_Mo_filled_19 : decode b_Mo_filled 19 = .ok (.getfield 13, 3) := by decide +kernel
theorem d_Mo_filled_22 : decode b_Mo_filled 22 = .ok (.sipush 140, 3) := by decide +kernel
theorem d_Mo_filled_25 : decode b_Mo_filled 25 = .ok (.iload_n 1, 1) := by decide +kernel
theorem d_Mo_filled_26 : decode b_Mo_filled 26 = .ok (.sipush 1000, 3) := by decide +kernel
theorem d_Mo_filled_29 : decode b_Mo_filled 29 = .ok (.irem, 1) := by decide +kernel
theorem d_Mo_filled_30 : decode b_Mo_filled 30 = .ok (.iadd, 1) := by decide +kernel
theorem d_Mo_filled_31 : decode b_Mo_filled 31 = .ok (.baload, 1) := by decide +kernel
theorem d_Mo_filled_32 : decode b_Mo_filled 32 = .ok (.ifCond .ne 7, 3) := by decide +kernel
theorem d_Mo_filled_35 : decode b_Mo_filled 35 = .ok (.iconst 3, 1) := by decide +kernel
theorem d_Mo_filled_36 : decode b_Mo_filled 36 = .ok (.goto 7, 3) := by decide +kernel
theorem d_Mo_filled_39 : decode b_Mo_filled 39 = .ok (.aload_n 0, 1) := by decide +kernel
theorem d_Mo_filled_40 : decode b_Mo_filled 40 = .ok (.getfield 100, 3) := by decide +kernel
theorem d_Mo_filled_43 : decode b_Mo_filled 43 = .ok (.putfield 100, 3) := by decide +kernel
theorem d_Mo_filled_46 : decode b_Mo_filled 46 = .ok (.aload_n 0, 1) := by decide +kernel
theorem d_Mo_filled_47 : decode b_Mo_filled 47 = .ok (.getfield 100, 3) := by decide +kernel
theorem d_Mo_filled_50 : decode b_Mo_filled 50 = .ok (.ifCond .eq 5, 3) := by decide +kernel
theorem d_Mo_filled_53 : decode b_Mo_filled 53 = .ok (.iconst 0, 1) := by decide +kernel
theorem d_Mo_filled_54 : decode b_Mo_filled 54 = .ok (.ireturn, 1) := by decide +kernel
theorem d_Mo_filled_55 : decode b_Mo_filled 55 = .ok (.sipush 140, 3) := by decide +kernel
theorem d_Mo_filled_58 : decode b_Mo_filled 58 = .ok (.iload_n 1, 1) := by decide +kernel
theorem d_Mo_filled_59 : decode b_Mo_filled 59 = .ok (.sipush 1000, 3) := by decide +kernel
theorem d_Mo_filled_62 : decode b_Mo_filled 62 = .ok (.irem, 1) := by decide +kernel
theorem d_Mo_filled_63 : decode b_Mo_filled 63 = .ok (.iadd, 1) := by decide +kernel
theorem d_Mo_filled_64 : decode b_Mo_filled 64 = .ok (.istore_n 2, 1) := by decide +kernel
theorem d_Mo_filled_65 : decode b_Mo_filled 65 = .ok (.aload_n 0, 1) := by decide +kernel
theorem d_Mo_filled_66 : decode b_Mo_filled 66 = .ok (.aload_n 0, 1) := by decide +kernel
theorem d_Mo_filled_67 : decode b_Mo_filled 67 = .ok (.getfield 32, 3) := by decide +kernel
theorem d_Mo_filled_70 : decode b_Mo_filled 70 = .ok (.iload_n 2, 1) := by decide +kernel
theorem d_Mo_filled_71 : decode b_Mo_filled 71 = .ok (.iaload, 1) := by decide +kernel
theorem d_Mo_filled_72 : decode b_Mo_filled 72 = .ok (.aload_n 0, 1) := by decide +kernel
theorem d_Mo_filled_73 : decode b_Mo_filled 73 = .ok (.getfield 29, 3) := by decide +kernel
theorem d_Mo_filled_76 : decode b_Mo_filled 76 = .ok (.iload_n 2, 1) := by decide +kernel
theorem d_Mo_filled_77 : decode b_Mo_filled 77 = .ok (.iaload, 1) := by decide +kernel
theorem d_Mo_filled_78 : decode b_Mo_filled 78 = .ok (.invokevirtual 223, 3) := by decide +kernel
theorem d_Mo_filled_81 : decode b_Mo_filled 81 = .ok (.iconst 0, 1) := by decide +kernel
theorem d_Mo_filled_82 : decode b_Mo_filled 82 = .ok (.istore_n 3, 1) := by decide +kernel
theorem d_Mo_filled_83 : decode b_Mo_filled 83 = .ok (.iconst 0, 1) := by decide +kernel
theorem d_Mo_filled_84 : decode b_Mo_filled 84 = .ok (.istore 4, 2) := by decide +kernel
theorem d_Mo_filled_86 : decode b_Mo_filled 86 = .ok (.iload 4, 2) := by decide +kernel
theorem d_Mo_filled_88 : decode b_Mo_filled 88 = .ok (.bipush 24, 2) := by decide +kernel
theorem d_Mo_filled_90 : decode b_Mo_filled 90 = .ok (.if_icmp .ge 32, 3) := by decide +kernel
theorem d_Mo_filled_93 : decode b_Mo_filled 93 = .ok (.iload_n 3, 1) := by decide +kernel
theorem d_Mo_filled_94 : decode b_Mo_filled 94 = .ok (.aload_n 0, 1) := by decide +kernel
theorem d_Mo_filled_95 : decode b_Mo_filled 95 = .ok (.getfield 91, 3) := by decide +kernel
theorem d_Mo_filled_98 : decode b_Mo_filled 98 = .ok (.bipush 24, 2) := by decide +kernel
theorem d_Mo_filled_100 : decode b_Mo_filled 100 = .ok (.aload_n 0, 1) := by decide +kernel
theorem d_Mo_filled_101 : decode b_Mo_filled 101 = .ok (.getfield 29, 3) := by decide +kernel
theorem d_Mo_filled_104 : decode b_Mo_filled 104 = .ok (.iload_n 2, 1) := by decide +kernel
theorem d_Mo_filled_105 : decode b_Mo_filled 105 = .ok (.iaload, 1) := by decide +kernel
theorem d_Mo_filled_106 : decode b_Mo_filled 106 = .ok (.imul, 1) := by decide +kernel
theorem d_Mo_filled_107 : decode b_Mo_filled 107 = .ok (.iload 4, 2) := by decide +kernel
theorem d_Mo_filled_109 : decode b_Mo_filled 109 = .ok (.iadd, 1) := by decide +kernel
theorem d_Mo_filled_110 : decode b_Mo_filled 110 = .ok (.laload, 1) := by decide +kernel
theorem d_Mo_filled_111 : decode b_Mo_filled 111 = .ok (.invokestatic 226, 3) := by decide +kernel
theorem d_Mo_filled_114 : decode b_Mo_filled 114 = .ok (.iadd, 1) := by decide +kernel
theorem d_Mo_filled_115 : decode b_Mo_filled 115 = .ok (.istore_n 3, 1) := by decide +kernel
theorem d_Mo_filled_116 : decode b_Mo_filled 116 = .ok (.iinc 4 1, 3) := by decide +kernel
theorem d_Mo_filled_119 : decode b_Mo_filled 119 = .ok (.goto (-33), 3) := by decide +kernel
theorem d_Mo_filled_122 : decode b_Mo_filled 122 = .ok (.iload_n 3, 1) := by decide +kernel
theorem d_Mo_filled_123 : decode b_Mo_filled 123 = .ok (.ireturn, 1) := by decide +kernel
theorem d_Mo_hasPlane_0 : decode b_Mo_hasPlane 0 = .ok (.iconst 0, 1) := by decide +kernel
theorem d_Mo_hasPlane_1 : decode b_Mo_hasPlane 1 = .ok (.istore_n 3, 1) := by decide +kernel
theorem d_Mo_hasPlane_2 : decode b_Mo_hasPlane 2 = .ok (.sipush 140, 3) := by decide +kernel
theorem d_Mo_hasPlane_5 : decode b_Mo_hasPlane 5 = .ok (.istore 4, 2) := by decide +kernel
theorem d_Mo_hasPlane_7 : decode b_Mo_hasPlane 7 = .ok (.iload 4, 2) := by decide +kernel
theorem d_Mo_hasPlane_9 : decode b_Mo_hasPlane 9 = .ok (.sipush 140, 3) := by decide +kernel
theorem d_Mo_hasPlane_12 : decode b_Mo_hasPlane 12 = .ok (.aload_n 0, 1) := by decide +kernel
theorem d_Mo_hasPlane_13 : decode b_Mo_hasPlane 13 = .ok (.getfield 7, 3) := by decide +kernel
theorem d_Mo_hasPlane_16 : decode b_Mo_hasPlane 16 = .ok (.iconst 5, 1) := by decide +kernel
theorem d_Mo_hasPlane_17 : decode b_Mo_hasPlane 17 = .ok (.iaload, 1) := by decide +kernel
theorem d_Mo_hasPlane_18 : decode b_Mo_hasPlane 18 = .ok (.iadd, 1) := by decide +kernel
theorem d_Mo_hasPlane_19 : decode b_Mo_hasPlane 19 = .ok (.if_icmp .ge 51, 3) := by decide +kernel
theorem d_Mo_hasPlane_22 : decode b_Mo_hasPlane 22 = .ok (.iload_n 3, 1) := by decide +kernel
theorem d_Mo_hasPlane_23 : decode b_Mo_hasPlane 23 = .ok (.ifCond .ne 35, 3) := by decide +kernel
theorem d_Mo_hasPlane_26 : decode b_Mo_hasPlane 26 = .ok (.aload_n 0, 1) := by decide +kernel
theorem d_Mo_hasPlane_27 : decode b_Mo_hasPlane 27 = .ok (.getfield 13, 3) := by decide +kernel
theorem d_Mo_hasPlane_30 : decode b_Mo_hasPlane 30 = .ok (.iload 4, 2) := by decide +kernel
theorem d_Mo_hasPlane_32 : decode b_Mo_hasPlane 32 = .ok (.baload, 1) := by decide +kernel
theorem d_Mo_hasPlane_33 : decode b_Mo_hasPlane 33 = .ok (.ifCond .eq 29, 3) := by decide +kernel
theorem d_Mo_hasPlane_36 : decode b_Mo_hasPlane 36 = .ok (.aload_n 0, 1) := by decide +kernel
theorem d_Mo_hasPlane_37 : decode b_Mo_hasPlane 37 = .ok (.getfield 32, 3) := by decide +kernel
theorem d_Mo_hasPlane_40 : decode b_Mo_hasPlane 40 = .ok (.iload 4, 2) := by decide +kernel
theorem d_Mo_hasPlane_42 : decode b_Mo_hasPlane 42 = .ok (.iaload, 1) := by decide +kernel
theorem d_Mo_hasPlane_43 : decode b_Mo_hasPlane 43 = .ok (.iload_n 1, 1) := by decide +kernel
theorem d_Mo_hasPlane_44 : decode b_Mo_hasPlane 44 = .ok (.if_icmp .ne 18, 3) := by decide +kernel
theorem d_Mo_hasPlane_47 : decode b_Mo_hasPlane 47 = .ok (.aload_n 0, 1) := by decide +kernel
theorem d_Mo_hasPlane_48 : decode b_Mo_hasPlane 48 = .ok (.getfield 29, 3) := by decide +kernel
theorem d_Mo_hasPlane_51 : decode b_Mo_hasPlane 51 = .ok (.iload 4, 2) := by decide +kernel
theorem d_Mo_hasPlane_53 : decode b_Mo_hasPlane 53 = .ok (.iaload, 1) := by decide +kernel
theorem d_Mo_hasPlane_54 : decode b_Mo_hasPlane 54 = .ok (.iload_n 2, 1) := by decide +kernel
theorem d_Mo_hasPlane_55 : decode b_Mo_hasPlane 55 = .ok (.if_icmp .ne 7, 3) := by decide +kernel
theorem d_Mo_hasPlane_58 : decode b_Mo_hasPlane 58 = .ok (.iconst 1, 1) := by decide +kernel
theorem d_Mo_hasPlane_59 : decode b_Mo_hasPlane 59 = .ok (.goto 4, 3) := by decide +kernel
theorem d_Mo_hasPlane_62 : decode b_Mo_hasPlane 62 = .ok (.iconst 0, 1) := by decide +kernel
theorem d_Mo_hasPlane_63 : decode b_Mo_hasPlane 63 = .ok (.istore_n 3, 1) := by decide +kernel
theorem d_Mo_hasPlane_64 : decode b_Mo_hasPlane 64 = .ok (.iinc 4 1, 3) := by decide +kernel
theorem d_Mo_hasPlane_67 : decode b_Mo_hasPlane 67 = .ok (.goto (-60), 3) := by decide +kernel
theorem d_Mo_hasPlane_70 : decode b_Mo_hasPlane 70 = .ok (.iload_n 3, 1) := by decide +kernel
theorem d_Mo_hasPlane_71 : decode b_Mo_hasPlane 71 = .ok (.ireturn, 1) := by decide +kernel
theorem d_Mo_isPadOf_0 : decode b_Mo_isPadOf 0 = .ok (.aload_n 0, 1) := by decide +kernel
theorem d_Mo_isPadOf_1 : decode b_Mo_isPadOf 1 = .ok (.getfield 13, 3) := by decide +kernel
theorem d_Mo_isPadOf_4 : decode b_Mo_isPadOf 4 = .ok (.iload_n 1, 1) := by decide +kernel
theorem d_Mo_isPadOf_5 : decode b_Mo_isPadOf 5 = .ok (.baload, 1) := by decide +kernel
theorem d_Mo_isPadOf_6 : decode b_Mo_isPadOf 6 = .ok (.ifCond .eq 17, 3) := by decide +kernel
theorem d_Mo_isPadOf_9 : decode b_Mo_isPadOf 9 = .ok (.aload_n 0, 1) := by decide +kernel
theorem d_Mo_isPadOf_10 : decode b_Mo_isPadOf 10 = .ok (.getfield 32, 3) := by decide +kernel
theorem d_Mo_isPadOf_13 : decode b_Mo_isPadOf 13 = .ok (.iload_n 1, 1) := by decide +kernel
theorem d_Mo_isPadOf_14 : decode b_Mo_isPadOf 14 = .ok (.iaload, 1) := by decide +kernel
theorem d_Mo_isPadOf_15 : decode b_Mo_isPadOf 15 = .ok (.iload_n 2, 1) := by decide +kernel
theorem d_Mo_isPadOf_16 : decode b_Mo_isPadOf 16 = .ok (.if_icmp .ne 7, 3) := by decide +kernel
theorem d_Mo_isPadOf_19 : decode b_Mo_isPadOf 19 = .ok (.iconst 1, 1) := by decide +kernel
theorem d_Mo_isPadOf_20 : decode b_Mo_isPadOf 20 = .ok (.goto 4, 3) := by decide +kernel
theorem d_Mo_isPadOf_23 : decode b_Mo_isPadOf 23 = .ok (.iconst 0, 1) := by decide +kernel
theorem d_Mo_isPadOf_24 : decode b_Mo_isPadOf 24 = .ok (.ireturn, 1) := by decide +kernel
theorem d_Mo_isGrown_0 : decode b_Mo_isGrown 0 = .ok (.aload_n 0, 1) := by decide +kernel
theorem d_Mo_isGrown_1 : decode b_Mo_isGrown 1 = .ok (.getfield 91, 3) := by decide +kernel
theorem d_Mo_isGrown_4 : decode b_Mo_isGrown 4 = .ok (.aload_n 0, 1) := by decide +kernel
theorem d_Mo_isGrown_5 : decode b_Mo_isGrown 5 = .ok (.getfield 20, 3) := by decide +kernel
theorem d_Mo_isGrown_8 : decode b_Mo_isGrown 8 = .ok (.iload_n 1, 1) := by decide +kernel
theorem d_Mo_isGrown_9 : decode b_Mo_isGrown 9 = .ok (.iaload, 1) := by decide +kernel
theorem d_Mo_isGrown_10 : decode b_Mo_isGrown 10 = .ok (.laload, 1) := by decide +kernel
theorem d_Mo_isGrown_11 : decode b_Mo_isGrown 11 = .ok (.aload_n 0, 1) := by decide +kernel
theorem d_Mo_isGrown_12 : decode b_Mo_isGrown 12 = .ok (.getfield 17, 3) := by decide +kernel
theorem d_Mo_isGrown_15 : decode b_Mo_isGrown 15 = .ok (.iload_n 1, 1) := by decide +kernel
theorem d_Mo_isGrown_16 : decode b_Mo_isGrown 16 = .ok (.iaload, 1) := by decide +kernel
theorem d_Mo_isGrown_17 : decode b_Mo_isGrown 17 = .ok (.lshr, 1) := by decide +kernel
theorem d_Mo_isGrown_18 : decode b_Mo_isGrown 18 = .ok (.lconst 1, 1) := by decide +kernel
theorem d_Mo_isGrown_19 : decode b_Mo_isGrown 19 = .ok (.land, 1) := by decide +kernel
theorem d_Mo_isGrown_20 : decode b_Mo_isGrown 20 = .ok (.lconst 1, 1) := by decide +kernel
theorem d_Mo_isGrown_21 : decode b_Mo_isGrown 21 = .ok (.lcmp, 1) := by decide +kernel
theorem d_Mo_isGrown_22 : decode b_Mo_isGrown 22 = .ok (.ifCond .ne 7, 3) := by decide +kernel
theorem d_Mo_isGrown_25 : decode b_Mo_isGrown 25 = .ok (.iconst 1, 1) := by decide +kernel
theorem d_Mo_isGrown_26 : decode b_Mo_isGrown 26 = .ok (.goto 4, 3) := by decide +kernel
theorem d_Mo_isGrown_29 : decode b_Mo_isGrown 29 = .ok (.iconst 0, 1) := by decide +kernel
theorem d_Mo_isGrown_30 : decode b_Mo_isGrown 30 = .ok (.ireturn, 1) := by decide +kernel
theorem d_Mo_joinLayers_0 : decode b_Mo_joinLayers 0 = .ok (.iconst 0, 1) := by decide +kernel
theorem d_Mo_joinLayers_1 : decode b_Mo_joinLayers 1 = .ok (.istore_n 2, 1) := by decide +kernel
theorem d_Mo_joinLayers_2 : decode b_Mo_joinLayers 2 = .ok (.bipush 20, 2) := by decide +kernel
theorem d_Mo_joinLayers_4 : decode b_Mo_joinLayers 4 = .ok (.istore_n 3, 1) := by decide +kernel
theorem d_Mo_joinLayers_5 : decode b_Mo_joinLayers 5 = .ok (.iload_n 3, 1) := by decide +kernel
theorem d_Mo_joinLayers_6 : decode b_Mo_joinLayers 6 = .ok (.bipush 80, 2) := by decide +kernel
theorem d_Mo_joinLayers_8 : decode b_Mo_joinLayers 8 = .ok (.if_icmp .ge 193, 3) := by decide +kernel
theorem d_Mo_joinLayers_11 : decode b_Mo_joinLayers 11 = .ok (.aload_n 0, 1) := by decide +kernel
theorem d_Mo_joinLayers_12 : decode b_Mo_joinLayers 12 = .ok (.iload_n 3, 1) := by decide +kernel
theorem d_Mo_joinLayers_13 : decode b_Mo_joinLayers 13 = .ok (.iload_n 1, 1) := by decide +kernel
theorem d_Mo_joinLayers_14 : decode b_Mo_joinLayers 14 = .ok (.invokevirtual 230, 3) := by decide +kernel
theorem d_Mo_joinLayers_17 : decode b_Mo_joinLayers 17 = .ok (.ifCond .ne 6, 3) := by decide +kernel
theorem d_Mo_joinLayers_20 : decode b_Mo_joinLayers 20 = .ok (.goto 175, 3) := by decide +kernel
theorem d_Mo_joinLayers_23 : decode b_Mo_joinLayers 23 = .ok (.iconst 0, 1) := by decide +kernel
theorem d_Mo_joinLayers_24 : decode b_Mo_joinLayers 24 = .ok (.istore 4, 2) := by decide +kernel
theorem d_Mo_joinLayers_26 : decode b_Mo_joinLayers 26 = .ok (.iconst 1, 1) := by decide +kernel
theorem d_Mo_joinLayers_27 : decode b_Mo_joinLayers 27 = .ok (.istore 5, 2) := by decide +kernel
theorem d_Mo_joinLayers_29 : decode b_Mo_joinLayers 29 = .ok (.iconst 0, 1) := by decide +kernel
theorem d_Mo_joinLayers_30 : decode b_Mo_joinLayers 30 = .ok (.istore 6, 2) := by decide +kernel
theorem d_Mo_joinLayers_32 : decode b_Mo_joinLayers 32 = .ok (.iload 6, 2) := by decide +kernel
theorem d_Mo_joinLayers_34 : decode b_Mo_joinLayers 34 = .ok (.aload_n 0, 1) := by decide +kernel
theorem d_Mo_joinLayers_35 : decode b_Mo_joinLayers 35 = .ok (.getfield 94, 3) := by decide +kernel
theorem d_Mo_joinLayers_38 : decode b_Mo_joinLayers 38 = .ok (.if_icmp .ge 81, 3) := by decide +kernel
theorem d_Mo_joinLayers_41 : decode b_Mo_joinLayers 41 = .ok (.aload_n 0, 1) := by decide +kernel
theorem d_Mo_joinLayers_42 : decode b_Mo_joinLayers 42 = .ok (.getfield 91, 3) := by decide +kernel
theorem d_Mo_joinLayers_45 : decode b_Mo_joinLayers 45 = .ok (.bipush 24, 2) := by decide +kernel
theorem d_Mo_joinLayers_47 : decode b_Mo_joinLayers 47 = .ok (.iload 6, 2) := by decide +kernel
theorem d_Mo_joinLayers_49 : decode b_Mo_joinLayers 49 = .ok (.imul, 1) := by decide +kernel
theorem d_Mo_joinLayers_50 : decode b_Mo_joinLayers 50 = .ok (.aload_n 0, 1) := by decide +kernel
theorem d_Mo_joinLayers_51 : decode b_Mo_joinLayers 51 = .ok (.getfield 20, 3) := by decide +kernel
theorem d_Mo_joinLayers_54 : decode b_Mo_joinLayers 54 = .ok (.iload_n 3, 1) := by decide +kernel
theorem d_Mo_joinLayers_55 : decode b_Mo_joinLayers 55 = .ok (.iaload, 1) := by decide +kernel
theorem d_Mo_joinLayers_56 : decode b_Mo_joinLayers 56 = .ok (.iadd, 1) := by decide +kernel
theorem d_Mo_joinLayers_57 : decode b_Mo_joinLayers 57 = .ok (.laload, 1) := by decide +kernel
theorem d_Mo_joinLayers_58 : decode b_Mo_joinLayers 58 = .ok (.aload_n 0, 1) := by decide +kernel
theorem d_Mo_joinLayers_59 : decode b_Mo_joinLayers 59 = .ok (.getfield 17, 3) := by decide +kernel
theorem d_Mo_joinLayers_62 : decode b_Mo_joinLayers 62 = .ok (.iload_n 3, 1) := by decide +kernel
theorem d_Mo_joinLayers_63 : decode b_Mo_joinLayers 63 = .ok (.iaload, 1) := by decide +kernel
theorem d_Mo_joinLayers_64 : decode b_Mo_joinLayers 64 = .ok (.lshr, 1) := by decide +kernel
theorem d_Mo_joinLayers_65 : decode b_Mo_joinLayers 65 = .ok (.lconst 1, 1) := by decide +kernel
theorem d_Mo_joinLayers_66 : decode b_Mo_joinLayers 66 = .ok (.land, 1) := by decide +kernel
theorem d_Mo_joinLayers_67 : decode b_Mo_joinLayers 67 = .ok (.lconst 1, 1) := by decide +kernel
theorem d_Mo_joinLayers_68 : decode b_Mo_joinLayers 68 = .ok (.lcmp, 1) := by decide +kernel
theorem d_Mo_joinLayers_69 : decode b_Mo_joinLayers 69 = .ok (.ifCond .ne 7, 3) := by decide +kernel
theorem d_Mo_joinLayers_72 : decode b_Mo_joinLayers 72 = .ok (.iconst 1, 1) := by decide +kernel
theorem d_Mo_joinLayers_73 : decode b_Mo_joinLayers 73 = .ok (.goto 4, 3) := by decide +kernel
theorem d_Mo_joinLayers_76 : decode b_Mo_joinLayers 76 = .ok (.iconst 0, 1) := by decide +kernel
theorem d_Mo_joinLayers_77 : decode b_Mo_joinLayers 77 = .ok (.istore 7, 2) := by decide +kernel
theorem d_Mo_joinLayers_79 : decode b_Mo_joinLayers 79 = .ok (.iload 4, 2) := by decide +kernel
theorem d_Mo_joinLayers_81 : decode b_Mo_joinLayers 81 = .ok (.ifCond .ne 8, 3) := by decide +kernel
theorem d_Mo_joinLayers_84 : decode b_Mo_joinLayers 84 = .ok (.iload 7, 2) := by decide +kernel
theorem d_Mo_joinLayers_86 : decode b_Mo_joinLayers 86 = .ok (.ifCond .eq 7, 3) := by decide +kernel
theorem d_Mo_joinLayers_89 : decode b_Mo_joinLayers 89 = .ok (.iconst 1, 1) := by decide +kernel
theorem d_Mo_joinLayers_90 : decode b_Mo_joinLayers 90 = .ok (.goto 4, 3) := by decide +kernel
theorem d_Mo_joinLayers_93 : decode b_Mo_joinLayers 93 = .ok (.iconst 0, 1) := by decide +kernel
theorem d_Mo_joinLayers_94 : decode b_Mo_joinLayers 94 = .ok (.istore 4, 2) := by decide +kernel
theorem d_Mo_joinLayers_96 : decode b_Mo_joinLayers 96 = .ok (.iload 5, 2) := by decide +kernel
theorem d_Mo_joinLayers_98 : decode b_Mo_joinLayers 98 = .ok (.ifCond .eq 12, 3) := by decide +kernel
theorem d_Mo_joinLayers_101 : decode b_Mo_joinLayers 101 = .ok (.iload 7, 2) := by decide +kernel
theorem d_Mo_joinLayers_103 : decode b_Mo_joinLayers 103 = .ok (.ifCond .eq 7, 3) := by decide +kernel
theorem d_Mo_joinLayers_106 : decode b_Mo_joinLayers 106 = .ok (.iconst 1, 1) := by decide +kernel
theorem d_Mo_joinLayers_107 : decode b_Mo_joinLayers 107 = .ok (.goto 4, 3) := by decide +kernel
theorem d_Mo_joinLayers_110 : decode b_Mo_joinLayers 110 = .ok (.iconst 0, 1) := by decide +kernel
theorem d_Mo_joinLayers_111 : decode b_Mo_joinLayers 111 = .ok (.istore 5, 2) := by decide +kernel
theorem d_Mo_joinLayers_113 : decode b_Mo_joinLayers 113 = .ok (.iinc 6 1, 3) := by decide +kernel
theorem d_Mo_joinLayers_116 : decode b_Mo_joinLayers 116 = .ok (.goto (-84), 3) := by decide +kernel
theorem d_Mo_joinLayers_119 : decode b_Mo_joinLayers 119 = .ok (.iload 4, 2) := by decide +kernel
theorem d_Mo_joinLayers_121 : decode b_Mo_joinLayers 121 = .ok (.ifCond .eq 74, 3) := by decide +kernel
theorem d_Mo_joinLayers_124 : decode b_Mo_joinLayers 124 = .ok (.iload 5, 2) := by decide +kernel
theorem d_Mo_joinLayers_126 : decode b_Mo_joinLayers 126 = .ok (.ifCond .eq 6, 3) := by decide +kernel
theorem d_Mo_joinLayers_129 : decode b_Mo_joinLayers 129 = .ok (.goto 66, 3) := by decide +kernel
theorem d_Mo_joinLayers_132 : decode b_Mo_joinLayers 132 = .ok (.iconst 1, 1) := by decide +kernel
theorem d_Mo_joinLayers_133 : decode b_Mo_joinLayers 133 = .ok (.istore_n 2, 1) := by decide +kernel
theorem d_Mo_joinLayers_134 : decode b_Mo_joinLayers 134 = .ok (.iconst 0, 1) := by decide +kernel
theorem d_Mo_joinLayers_135 : decode b_Mo_joinLayers 135 = .ok (.istore 6, 2) := by decide +kernel
theorem d_Mo_joinLayers_137 : decode b_Mo_joinLayers 137 = .ok (.iload 6, 2) := by decide +kernel
theorem d_Mo_joinLayers_139 : decode b_Mo_joinLayers 139 = .ok (.aload_n 0, 1) := by decide +kernel
theorem d_Mo_joinLayers_140 : decode b_Mo_joinLayers 140 = .ok (.getfield 94, 3) := by decide +kernel
theorem d_Mo_joinLayers_143 : decode b_Mo_joinLayers 143 = .ok (.if_icmp .ge 52, 3) := by decide +kernel
theorem d_Mo_joinLayers_146 : decode b_Mo_joinLayers 146 = .ok (.aload_n 0, 1) := by decide +kernel
theorem d_Mo_joinLayers_147 : decode b_Mo_joinLayers 147 = .ok (.getfield 91, 3) := by decide +kernel
theorem d_Mo_joinLayers_150 : decode b_Mo_joinLayers 150 = .ok (.bipush 24, 2) := by decide +kernel
theorem d_Mo_joinLayers_152 : decode b_Mo_joinLayers 152 = .ok (.iload 6, 2) := by decide +kernel
theorem d_Mo_joinLayers_154 : decode b_Mo_joinLayers 154 = .ok (.imul, 1) := by decide +kernel
theorem d_Mo_joinLayers_155 : decode b_Mo_joinLayers 155 = .ok (.aload_n 0, 1) := by decide +kernel
theorem d_Mo_joinLayers_156 : decode b_Mo_joinLayers 156 = .ok (.getfield 20, 3) := by decide +kernel
theorem d_Mo_joinLayers_159 : decode b_Mo_joinLayers 159 = .ok (.iload_n 3, 1) := by decide +kernel
theorem d_Mo_joinLayers_160 : decode b_Mo_joinLayers 160 = .ok (.iaload, 1) := by decide +kernel
theorem d_Mo_joinLayers_161 : decode b_Mo_joinLayers 161 = .ok (.iadd, 1) := by decide +kernel
theorem d_Mo_joinLayers_162 : decode b_Mo_joinLayers 162 = .ok (.aload_n 0, 1) := by decide +kernel
theorem d_Mo_joinLayers_163 : decode b_Mo_joinLayers 163 = .ok (.getfield 91, 3) := by decide +kernel
theorem d_Mo_joinLayers_166 : decode b_Mo_joinLayers 166 = .ok (.bipush 24, 2) := by decide +kernel
theorem d_Mo_joinLayers_168 : decode b_Mo_joinLayers 168 = .ok (.iload 6, 2) := by decide +kernel
theorem d_Mo_joinLayers_170 : decode b_Mo_joinLayers 170 = .ok (.imul, 1) := by decide +kernel
theorem d_Mo_joinLayers_171 : decode b_Mo_joinLayers 171 = .ok (.aload_n 0, 1) := by decide +kernel
theorem d_Mo_joinLayers_172 : decode b_Mo_joinLayers 172 = .ok (.getfield 20, 3) := by decide +kernel
theorem d_Mo_joinLayers_175 : decode b_Mo_joinLayers 175 = .ok (.iload_n 3, 1) := by decide +kernel
theorem d_Mo_joinLayers_176 : decode b_Mo_joinLayers 176 = .ok (.iaload, 1) := by decide +kernel
theorem d_Mo_joinLayers_177 : decode b_Mo_joinLayers 177 = .ok (.iadd, 1) := by decide +kernel
theorem d_Mo_joinLayers_178 : decode b_Mo_joinLayers 178 = .ok (.laload, 1) := by decide +kernel
theorem d_Mo_joinLayers_179 : decode b_Mo_joinLayers 179 = .ok (.lconst 1, 1) := by decide +kernel
theorem d_Mo_joinLayers_180 : decode b_Mo_joinLayers 180 = .ok (.aload_n 0, 1) := by decide +kernel
theorem d_Mo_joinLayers_181 : decode b_Mo_joinLayers 181 = .ok (.getfield 17, 3) := by decide +kernel
theorem d_Mo_joinLayers_184 : decode b_Mo_joinLayers 184 = .ok (.iload_n 3, 1) := by decide +kernel
theorem d_Mo_joinLayers_185 : decode b_Mo_joinLayers 185 = .ok (.iaload, 1) := by decide +kernel
theorem d_Mo_joinLayers_186 : decode b_Mo_joinLayers 186 = .ok (.lshl, 1) := by decide +kernel
theorem d_Mo_joinLayers_187 : decode b_Mo_joinLayers 187 = .ok (.lor, 1) := by decide +kernel
theorem d_Mo_joinLayers_188 : decode b_Mo_joinLayers 188 = .ok (.lastore, 1) := by decide +kernel
theorem d_Mo_joinLayers_189 : decode b_Mo_joinLayers 189 = .ok (.iinc 6 1, 3) := by decide +kernel
theorem d_Mo_joinLayers_192 : decode b_Mo_joinLayers 192 = .ok (.goto (-55), 3) := by decide +kernel
theorem d_Mo_joinLayers_195 : decode b_Mo_joinLayers 195 = .ok (.iinc 3 1, 3) := by decide +kernel
theorem d_Mo_joinLayers_198 : decode b_Mo_joinLayers 198 = .ok (.goto (-193), 3) := by decide +kernel
theorem d_Mo_joinLayers_201 : decode b_Mo_joinLayers 201 = .ok (.iload_n 2, 1) := by decide +kernel
theorem d_Mo_joinLayers_202 : decode b_Mo_joinLayers 202 = .ok (.ireturn, 1) := by decide +kernel
theorem d_Mo_islands_0 : decode b_Mo_islands 0 = .ok (.aload_n 0, 1) := by decide +kernel
theorem d_Mo_islands_1 : decode b_Mo_islands 1 = .ok (.aload_n 0, 1) := by decide +kernel
theorem d_Mo_islands_2 : decode b_Mo_islands 2 = .ok (.iload_n 1, 1) := by decide +kernel
theorem d_Mo_islands_3 : decode b_Mo_islands 3 = .ok (.iconst 1, 1) := by decide +kernel
theorem d_Mo_islands_4 : decode b_Mo_islands 4 = .ok (.invokevirtual 176, 3) := by decide +kernel
theorem d_Mo_islands_7 : decode b_Mo_islands 7 = .ok (.putfield 100, 3) := by decide +kernel
theorem d_Mo_islands_10 : decode b_Mo_islands 10 = .ok (.aload_n 0, 1) := by decide +kernel
theorem d_Mo_islands_11 : decode b_Mo_islands 11 = .ok (.getfield 100, 3) := by decide +kernel
theorem d_Mo_islands_14 : decode b_Mo_islands 14 = .ok (.ifCond .eq 5, 3) := by decide +kernel
theorem d_Mo_islands_17 : decode b_Mo_islands 17 = .ok (.iconst 0, 1) := by decide +kernel
theorem d_Mo_islands_18 : decode b_Mo_islands 18 = .ok (.ireturn, 1) := by decide +kernel
theorem d_Mo_islands_19 : decode b_Mo_islands 19 = .ok (.iload_n 1, 1) := by decide +kernel
theorem d_Mo_islands_20 : decode b_Mo_islands 20 = .ok (.sipush 1000, 3) := by decide +kernel
theorem d_Mo_islands_23 : decode b_Mo_islands 23 = .ok (.irem, 1) := by decide +kernel
theorem d_Mo_islands_24 : decode b_Mo_islands 24 = .ok (.istore_n 2, 1) := by decide +kernel
theorem d_Mo_islands_25 : decode b_Mo_islands 25 = .ok (.iconst 0, 1) := by decide +kernel
theorem d_Mo_islands_26 : decode b_Mo_islands 26 = .ok (.istore_n 3, 1) := by decide +kernel
theorem d_Mo_islands_27 : decode b_Mo_islands 27 = .ok (.iload_n 3, 1) := by decide +kernel
theorem d_Mo_islands_28 : decode b_Mo_islands 28 = .ok (.aload_n 0, 1) := by decide +kernel
theorem d_Mo_islands_29 : decode b_Mo_islands 29 = .ok (.getfield 94, 3) := by decide +kernel
theorem d_Mo_islands_32 : decode b_Mo_islands 32 = .ok (.if_icmp .ge 78, 3) := by decide +kernel
theorem d_Mo_islands_35 : decode b_Mo_islands 35 = .ok (.aload_n 0, 1) := by decide +kernel
theorem d_Mo_islands_36 : decode b_Mo_islands 36 = .ok (.iload_n 2, 1) := by decide +kernel
theorem d_Mo_islands_37 : decode b_Mo_islands 37 = .ok (.iload_n 3, 1) := by decide +kernel
theorem d_Mo_islands_38 : decode b_Mo_islands 38 = .ok (.invokevirtual 223, 3) := by decide +kernel
theorem d_Mo_islands_41 : decode b_Mo_islands 41 = .ok (.aload_n 0, 1) := by decide +kernel
theorem d_Mo_islands_42 : decode b_Mo_islands 42 = .ok (.iload_n 2, 1) := by decide +kernel
theorem d_Mo_islands_43 : decode b_Mo_islands 43 = .ok (.iload_n 3, 1) := by decide +kernel
theorem d_Mo_islands_44 : decode b_Mo_islands 44 = .ok (.invokevirtual 233, 3) := by decide +kernel
theorem d_Mo_islands_47 : decode b_Mo_islands 47 = .ok (.istore 4, 2) := by decide +kernel
theorem d_Mo_islands_49 : decode b_Mo_islands 49 = .ok (.bipush 24, 2) := by decide +kernel
theorem d_Mo_islands_51 : decode b_Mo_islands 51 = .ok (.iload_n 3, 1) := by decide +kernel
theorem d_Mo_islands_52 : decode b_Mo_islands 52 = .ok (.imul, 1) := by decide +kernel
theorem d_Mo_islands_53 : decode b_Mo_islands 53 = .ok (.istore 5, 2) := by decide +kernel
theorem d_Mo_islands_55 : decode b_Mo_islands 55 = .ok (.iload 5, 2) := by decide +kernel
theorem d_Mo_islands_57 : decode b_Mo_islands 57 = .ok (.bipush 24, 2) := by decide +kernel
theorem d_Mo_islands_59 : decode b_Mo_islands 59 = .ok (.iload_n 3, 1) := by decide +kernel
theorem d_Mo_islands_60 : decode b_Mo_islands 60 = .ok (.imul, 1) := by decide +kernel
theorem d_Mo_islands_61 : decode b_Mo_islands 61 = .ok (.bipush 24, 2) := by decide +kernel
theorem d_Mo_islands_63 : decode b_Mo_islands 63 = .ok (.iadd, 1) := by decide +kernel
theorem d_Mo_islands_64 : decode b_Mo_islands 64 = .ok (.if_icmp .ge 40, 3) := by decide +kernel
theorem d_Mo_islands_67 : decode b_Mo_islands 67 = .ok (.aload_n 0, 1) := by decide +kernel
theorem d_Mo_islands_68 : decode b_Mo_islands 68 = .ok (.getfield 88, 3) := by decide +kernel
theorem d_Mo_islands_71 : decode b_Mo_islands 71 = .ok (.iload 5, 2) := by decide +kernel
theorem d_Mo_islands_73 : decode b_Mo_islands 73 = .ok (.aload_n 0, 1) := by decide +kernel
theorem d_Mo_islands_74 : decode b_Mo_islands 74 = .ok (.getfield 84, 3) := by decide +kernel
theorem d_Mo_islands_77 : decode b_Mo_islands 77 = .ok (.iload 5, 2) := by decide +kernel
theorem d_Mo_islands_79 : decode b_Mo_islands 79 = .ok (.laload, 1) := by decide +kernel
theorem d_Mo_islands_80 : decode b_Mo_islands 80 = .ok (.iload 4, 2) := by decide +kernel
theorem d_Mo_islands_82 : decode b_Mo_islands 82 = .ok (.ifCond .eq 13, 3) := by decide +kernel
theorem d_Mo_islands_85 : decode b_Mo_islands 85 = .ok (.aload_n 0, 1) := by decide +kernel
theorem d_Mo_islands_86 : decode b_Mo_islands 86 = .ok (.getfield 91, 3) := by decide +kernel
theorem d_Mo_islands_89 : decode b_Mo_islands 89 = .ok (.iload 5, 2) := by decide +kernel
theorem d_Mo_islands_91 : decode b_Mo_islands 91 = .ok (.laload, 1) := by decide +kernel
theorem d_Mo_islands_92 : decode b_Mo_islands 92 = .ok (.goto 4, 3) := by decide +kernel
theorem d_Mo_islands_95 : decode b_Mo_islands 95 = .ok (.lconst 0, 1) := by decide +kernel
theorem d_Mo_islands_96 : decode b_Mo_islands 96 = .ok (.lor, 1) := by decide +kernel
theorem d_Mo_islands_97 : decode b_Mo_islands 97 = .ok (.lastore, 1) := by decide +kernel
theorem d_Mo_islands_98 : decode b_Mo_islands 98 = .ok (.iinc 5 1, 3) := by decide +kernel
theorem d_Mo_islands_101 : decode b_Mo_islands 101 = .ok (.goto (-46), 3) := by decide +kernel
theorem d_Mo_islands_104 : decode b_Mo_islands 104 = .ok (.iinc 3 1, 3) := by decide +kernel
theorem d_Mo_islands_107 : decode b_Mo_islands 107 = .ok (.goto (-80), 3) := by decide +kernel
theorem d_Mo_islands_110 : decode b_Mo_islands 110 = .ok (.iconst 0, 1) := by decide +kernel
theorem d_Mo_islands_111 : decode b_Mo_islands 111 = .ok (.istore_n 3, 1) := by decide +kernel
theorem d_Mo_islands_112 : decode b_Mo_islands 112 = .ok (.iload_n 3, 1) := by decide +kernel
theorem d_Mo_islands_113 : decode b_Mo_islands 113 = .ok (.bipush 96, 2) := by decide +kernel
theorem d_Mo_islands_115 : decode b_Mo_islands 115 = .ok (.if_icmp .ge 16, 3) := by decide +kernel
theorem d_Mo_islands_118 : decode b_Mo_islands 118 = .ok (.aload_n 0, 1) := by decide +kernel
theorem d_Mo_islands_119 : decode b_Mo_islands 119 = .ok (.getfield 91, 3) := by decide +kernel
theorem d_Mo_islands_122 : decode b_Mo_islands 122 = .ok (.iload_n 3, 1) := by decide +kernel
theorem d_Mo_islands_123 : decode b_Mo_islands 123 = .ok (.lconst 0, 1) := by decide +kernel
theorem d_Mo_islands_124 : decode b_Mo_islands 124 = .ok (.lastore, 1) := by decide +kernel
theorem d_Mo_islands_125 : decode b_Mo_islands 125 = .ok (.iinc 3 1, 3) := by decide +kernel
theorem d_Mo_islands_128 : decode b_Mo_islands 128 = .ok (.goto (-16), 3) := by decide +kernel
theorem d_Mo_islands_131 : decode b_Mo_islands 131 = .ok (.iconst 0, 1) := by decide +kernel
theorem d_Mo_islands_132 : decode b_Mo_islands 132 = .ok (.istore_n 3, 1) := by decide +kernel
theorem d_Mo_islands_133 : decode b_Mo_islands 133 = .ok (.bipush 20, 2) := by decide +kernel
theorem d_Mo_islands_135 : decode b_Mo_islands 135 = .ok (.istore 4, 2) := by decide +kernel
theorem d_Mo_islands_137 : decode b_Mo_islands 137 = .ok (.iload 4, 2) := by decide +kernel
theorem d_Mo_islands_139 : decode b_Mo_islands 139 = .ok (.bipush 80, 2) := by decide +kernel
theorem d_Mo_islands_141 : decode b_Mo_islands 141 = .ok (.if_icmp .ge 125, 3) := by decide +kernel
theorem d_Mo_islands_144 : decode b_Mo_islands 144 = .ok (.aload_n 0, 1) := by decide +kernel
theorem d_Mo_islands_145 : decode b_Mo_islands 145 = .ok (.iload 4, 2) := by decide +kernel
theorem d_Mo_islands_147 : decode b_Mo_islands 147 = .ok (.iload_n 2, 1) := by decide +kernel
theorem d_Mo_islands_148 : decode b_Mo_islands 148 = .ok (.invokevirtual 230, 3) := by decide +kernel
theorem d_Mo_islands_151 : decode b_Mo_islands 151 = .ok (.ifCond .eq 109, 3) := by decide +kernel
theorem d_Mo_islands_154 : decode b_Mo_islands 154 = .ok (.aload_n 0, 1) := by decide +kernel
theorem d_Mo_islands_155 : decode b_Mo_islands 155 = .ok (.iload 4, 2) := by decide +kernel
theorem d_Mo_islands_157 : decode b_Mo_islands 157 = .ok (.invokevirtual 236, 3) := by decide +kernel
theorem d_Mo_islands_160 : decode b_Mo_islands 160 = .ok (.ifCond .eq 6, 3) := by decide +kernel
theorem d_Mo_islands_163 : decode b_Mo_islands 163 = .ok (.goto 97, 3) := by decide +kernel
theorem d_Mo_islands_166 : decode b_Mo_islands 166 = .ok (.iinc 3 1, 3) := by decide +kernel
theorem d_Mo_islands_169 : decode b_Mo_islands 169 = .ok (.aload_n 0, 1) := by decide +kernel
theorem d_Mo_islands_170 : decode b_Mo_islands 170 = .ok (.getfield 91, 3) := by decide +kernel
theorem d_Mo_islands_173 : decode b_Mo_islands 173 = .ok (.aload_n 0, 1) := by decide +kernel
theorem d_Mo_islands_174 : decode b_Mo_islands 174 = .ok (.getfield 20, 3) := by decide +kernel
theorem d_Mo_islands_177 : decode b_Mo_islands 177 = .ok (.iload 4, 2) := by decide +kernel
theorem d_Mo_islands_179 : decode b_Mo_islands 179 = .ok (.iaload, 1) := by decide +kernel
theorem d_Mo_islands_180 : decode b_Mo_islands 180 = .ok (.aload_n 0, 1) := by decide +kernel
theorem d_Mo_islands_181 : decode b_Mo_islands 181 = .ok (.getfield 91, 3) := by decide +kernel
theorem d_Mo_islands_184 : decode b_Mo_islands 184 = .ok (.aload_n 0, 1) := by decide +kernel
theorem d_Mo_islands_185 : decode b_Mo_islands 185 = .ok (.getfield 20, 3) := by decide +kernel
theorem d_Mo_islands_188 : decode b_Mo_islands 188 = .ok (.iload 4, 2) := by decide +kernel
theorem d_Mo_islands_190 : decode b_Mo_islands 190 = .ok (.iaload, 1) := by decide +kernel
theorem d_Mo_islands_191 : decode b_Mo_islands 191 = .ok (.laload, 1) := by decide +kernel
theorem d_Mo_islands_192 : decode b_Mo_islands 192 = .ok (.lconst 1, 1) := by decide +kernel
theorem d_Mo_islands_193 : decode b_Mo_islands 193 = .ok (.aload_n 0, 1) := by decide +kernel
theorem d_Mo_islands_194 : decode b_Mo_islands 194 = .ok (.getfield 17, 3) := by decide +kernel
theorem d_Mo_islands_197 : decode b_Mo_islands 197 = .ok (.iload 4, 2) := by decide +kernel
theorem d_Mo_islands_199 : decode b_Mo_islands 199 = .ok (.iaload, 1) := by decide +kernel
theorem d_Mo_islands_200 : decode b_Mo_islands 200 = .ok (.lshl, 1) := by decide +kernel
theorem d_Mo_islands_201 : decode b_Mo_islands 201 = .ok (.lor, 1) := by decide +kernel
theorem d_Mo_islands_202 : decode b_Mo_islands 202 = .ok (.lastore, 1) := by decide +kernel
theorem d_Mo_islands_203 : decode b_Mo_islands 203 = .ok (.iconst 1, 1) := by decide +kernel
theorem d_Mo_islands_204 : decode b_Mo_islands 204 = .ok (.istore 5, 2) := by decide +kernel
theorem d_Mo_islands_206 : decode b_Mo_islands 206 = .ok (.iload 5, 2) := by decide +kernel
theorem d_Mo_islands_208 : decode b_Mo_islands 208 = .ok (.ifCond .eq 52, 3) := by decide +kernel
theorem d_Mo_islands_211 : decode b_Mo_islands 211 = .ok (.aload_n 0, 1) := by decide +kernel
theorem d_Mo_islands_212 : decode b_Mo_islands 212 = .ok (.iload_n 2, 1) := by decide +kernel
theorem d_Mo_islands_213 : decode b_Mo_islands 213 = .ok (.invokevirtual 239, 3) := by decide +kernel
theorem d_Mo_islands_216 : decode b_Mo_islands 216 = .ok (.istore 5, 2) := by decide +kernel
theorem d_Mo_islands_218 : decode b_Mo_islands 218 = .ok (.iconst 0, 1) := by decide +kernel
theorem d_Mo_islands_219 : decode b_Mo_islands 219 = .ok (.istore 6, 2) := by decide +kernel
theorem d_Mo_islands_221 : decode b_Mo_islands 221 = .ok (.iload 6, 2) := by decide +kernel
theorem d_Mo_islands_223 : decode b_Mo_islands 223 = .ok (.aload_n 0, 1) := by decide +kernel
theorem d_Mo_islands_224 : decode b_Mo_islands 224 = .ok (.getfield 94, 3) := by decide +kernel
theorem d_Mo_islands_227 : decode b_Mo_islands 227 = .ok (.if_icmp .ge 30, 3) := by decide +kernel
theorem d_Mo_islands_230 : decode b_Mo_islands 230 = .ok (.aload_n 0, 1) := by decide +kernel
theorem d_Mo_islands_231 : decode b_Mo_islands 231 = .ok (.iload 6, 2) := by decide +kernel
theorem d_Mo_islands_233 : decode b_Mo_islands 233 = .ok (.invokevirtual 220, 3) := by decide +kernel
theorem d_Mo_islands_236 : decode b_Mo_islands 236 = .ok (.ifCond .ne 8, 3) := by decide +kernel
theorem d_Mo_islands_239 : decode b_Mo_islands 239 = .ok (.iload 5, 2) := by decide +kernel
theorem d_Mo_islands_241 : decode b_Mo_islands 241 = .ok (.ifCond .eq 7, 3) := by decide +kernel
theorem d_Mo_islands_244 : decode b_Mo_islands 244 = .ok (.iconst 1, 1) := by decide +kernel
theorem d_Mo_islands_245 : decode b_Mo_islands 245 = .ok (.goto 4, 3) := by decide +kernel
theorem d_Mo_islands_248 : decode b_Mo_islands 248 = .ok (.iconst 0, 1) := by decide +kernel
theorem d_Mo_islands_249 : decode b_Mo_islands 249 = .ok (.istore 5, 2) := by decide +kernel
theorem d_Mo_islands_251 : decode b_Mo_islands 251 = .ok (.iinc 6 1, 3) := by decide +kernel
theorem d_Mo_islands_254 : decode b_Mo_islands 254 = .ok (.goto (-33), 3) := by decide +kernel
theorem d_Mo_islands_257 : decode b_Mo_islands 257 = .ok (.goto (-51), 3) := by decide +kernel
theorem d_Mo_islands_260 : decode b_Mo_islands 260 = .ok (.iinc 4 1, 3) := by decide +kernel
theorem d_Mo_islands_263 : decode b_Mo_islands 263 = .ok (.goto (-126), 3) := by decide +kernel
theorem d_Mo_islands_266 : decode b_Mo_islands 266 = .ok (.iload_n 3, 1) := by decide +kernel
theorem d_Mo_islands_267 : decode b_Mo_islands 267 = .ok (.ireturn, 1) := by decide +kernel
theorem d_Mo_isPair_0 : decode b_Mo_isPair 0 = .ok (.aload_n 0, 1) := by decide +kernel
theorem d_Mo_isPair_1 : decode b_Mo_isPair 1 = .ok (.iload_n 1, 1) := by decide +kernel
theorem d_Mo_isPair_2 : decode b_Mo_isPair 2 = .ok (.invokevirtual 133, 3) := by decide +kernel
theorem d_Mo_isPair_5 : decode b_Mo_isPair 5 = .ok (.ifCond .eq 26, 3) := by decide +kernel
theorem d_Mo_isPair_8 : decode b_Mo_isPair 8 = .ok (.aload_n 0, 1) := by decide +kernel
theorem d_Mo_isPair_9 : decode b_Mo_isPair 9 = .ok (.iload_n 2, 1) := by decide +kernel
theorem d_Mo_isPair_10 : decode b_Mo_isPair 10 = .ok (.invokevirtual 133, 3) := by decide +kernel
theorem d_Mo_isPair_13 : decode b_Mo_isPair 13 = .ok (.ifCond .eq 18, 3) := by decide +kernel
theorem d_Mo_isPair_16 : decode b_Mo_isPair 16 = .ok (.aload_n 0, 1) := by decide +kernel
theorem d_Mo_isPair_17 : decode b_Mo_isPair 17 = .ok (.iload_n 1, 1) := by decide +kernel
theorem d_Mo_isPair_18 : decode b_Mo_isPair 18 = .ok (.iconst 0, 1) := by decide +kernel
theorem d_Mo_isPair_19 : decode b_Mo_isPair 19 = .ok (.iconst 0, 1) := by decide +kernel
theorem d_Mo_isPair_20 : decode b_Mo_isPair 20 = .ok (.iload_n 2, 1) := by decide +kernel
theorem d_Mo_isPair_21 : decode b_Mo_isPair 21 = .ok (.invokevirtual 136, 3) := by decide +kernel
theorem d_Mo_isPair_24 : decode b_Mo_isPair 24 = .ok (.ifCond .eq 7, 3) := by decide +kernel
theorem d_Mo_isPair_27 : decode b_Mo_isPair 27 = .ok (.iconst 1, 1) := by decide +kernel
theorem d_Mo_isPair_28 : decode b_Mo_isPair 28 = .ok (.goto 4, 3) := by decide +kernel
theorem d_Mo_isPair_31 : decode b_Mo_isPair 31 = .ok (.iconst 0, 1) := by decide +kernel
theorem d_Mo_isPair_32 : decode b_Mo_isPair 32 = .ok (.ireturn, 1) := by decide +kernel
theorem d_Mo_check_0 : decode b_Mo_check 0 = .ok (.aload_n 0, 1) := by decide +kernel
theorem d_Mo_check_1 : decode b_Mo_check 1 = .ok (.iconst 0, 1) := by decide +kernel
theorem d_Mo_check_2 : decode b_Mo_check 2 = .ok (.putfield 100, 3) := by decide +kernel
theorem d_Mo_check_5 : decode b_Mo_check 5 = .ok (.iconst 0, 1) := by decide +kernel
theorem d_Mo_check_6 : decode b_Mo_check 6 = .ok (.istore_n 1, 1) := by decide +kernel
theorem d_Mo_check_7 : decode b_Mo_check 7 = .ok (.bipush 20, 2) := by decide +kernel
theorem d_Mo_check_9 : decode b_Mo_check 9 = .ok (.istore_n 2, 1) := by decide +kernel
theorem d_Mo_check_10 : decode b_Mo_check 10 = .ok (.iload_n 2, 1) := by decide +kernel
theorem d_Mo_check_11 : decode b_Mo_check 11 = .ok (.sipush 140, 3) := by decide +kernel
theorem d_Mo_check_14 : decode b_Mo_check 14 = .ok (.if_icmp .ge 43, 3) := by decide +kernel
theorem d_Mo_check_17 : decode b_Mo_check 17 = .ok (.iload_n 2, 1) := by decide +kernel
theorem d_Mo_check_18 : decode b_Mo_check 18 = .ok (.iconst 1, 1) := by decide +kernel
theorem d_Mo_check_19 : decode b_Mo_check 19 = .ok (.iadd, 1) := by decide +kernel
theorem d_Mo_check_20 : decode b_Mo_check 20 = .ok (.istore_n 3, 1) := by decide +kernel
theorem d_Mo_check_21 : decode b_Mo_check 21 = .ok (.iload_n 3, 1) := by decide +kernel
theorem d_Mo_check_22 : decode b_Mo_check 22 = .ok (.sipush 140, 3) := by decide +kernel
theorem d_Mo_check_25 : decode b_Mo_check 25 = .ok (.if_icmp .ge 26, 3) := by decide +kernel
theorem d_Mo_check_28 : decode b_Mo_check 28 = .ok (.iload_n 1, 1) := by decide +kernel
theorem d_Mo_check_29 : decode b_Mo_check 29 = .ok (.aload_n 0, 1) := by decide +kernel
theorem d_Mo_check_30 : decode b_Mo_check 30 = .ok (.iload_n 2, 1) := by decide +kernel
theorem d_Mo_check_31 : decode b_Mo_check 31 = .ok (.iload_n 3, 1) := by decide +kernel
theorem d_Mo_check_32 : decode b_Mo_check 32 = .ok (.invokevirtual 242, 3) := by decide +kernel
theorem d_Mo_check_35 : decode b_Mo_check 35 = .ok (.ifCond .eq 7, 3) := by decide +kernel
theorem d_Mo_check_38 : decode b_Mo_check 38 = .ok (.iconst 1, 1) := by decide +kernel
theorem d_Mo_check_39 : decode b_Mo_check 39 = .ok (.goto 4, 3) := by decide +kernel
theorem d_Mo_check_42 : decode b_Mo_check 42 = .ok (.iconst 0, 1) := by decide +kernel
theorem d_Mo_check_43 : decode b_Mo_check 43 = .ok (.iadd, 1) := by decide +kernel
theorem d_Mo_check_44 : decode b_Mo_check 44 = .ok (.istore_n 1, 1) := by decide +kernel
theorem d_Mo_check_45 : decode b_Mo_check 45 = .ok (.iinc 3 1, 3) := by decide +kernel
theorem d_Mo_check_48 : decode b_Mo_check 48 = .ok (.goto (-27), 3) := by decide +kernel
theorem d_Mo_check_51 : decode b_Mo_check 51 = .ok (.iinc 2 1, 3) := by decide +kernel
theorem d_Mo_check_54 : decode b_Mo_check 54 = .ok (.goto (-44), 3) := by decide +kernel
theorem d_Mo_check_57 : decode b_Mo_check 57 = .ok (.iload_n 1, 1) := by decide +kernel
theorem d_Mo_check_58 : decode b_Mo_check 58 = .ok (.ireturn, 1) := by decide +kernel
theorem d_Mo_near_0 : decode b_Mo_near 0 = .ok (.aload_n 0, 1) := by decide +kernel
theorem d_Mo_near_1 : decode b_Mo_near 1 = .ok (.iload_n 2, 1) := by decide +kernel
theorem d_Mo_near_2 : decode b_Mo_near 2 = .ok (.ifCond .eq 8, 3) := by decide +kernel
theorem d_Mo_near_5 : decode b_Mo_near 5 = .ok (.iload_n 2, 1) := by decide +kernel
theorem d_Mo_near_6 : decode b_Mo_near 6 = .ok (.iconst 1, 1) := by decide +kernel
theorem d_Mo_near_7 : decode b_Mo_near 7 = .ok (.if_icmp .ne 7, 3) := by decide +kernel
theorem d_Mo_near_10 : decode b_Mo_near 10 = .ok (.iconst 0, 1) := by decide +kernel
theorem d_Mo_near_11 : decode b_Mo_near 11 = .ok (.goto 4, 3) := by decide +kernel
theorem d_Mo_near_14 : decode b_Mo_near 14 = .ok (.iconst 1, 1) := by decide +kernel
theorem d_Mo_near_15 : decode b_Mo_near 15 = .ok (.putfield 100, 3) := by decide +kernel
theorem d_Mo_near_18 : decode b_Mo_near 18 = .ok (.aload_n 0, 1) := by decide +kernel
theorem d_Mo_near_19 : decode b_Mo_near 19 = .ok (.getfield 100, 3) := by decide +kernel
theorem d_Mo_near_22 : decode b_Mo_near 22 = .ok (.ifCond .eq 5, 3) := by decide +kernel
theorem d_Mo_near_25 : decode b_Mo_near 25 = .ok (.iconst 0, 1) := by decide +kernel
theorem d_Mo_near_26 : decode b_Mo_near 26 = .ok (.ireturn, 1) := by decide +kernel
theorem d_Mo_near_27 : decode b_Mo_near 27 = .ok (.iload_n 1, 1) := by decide +kernel
theorem d_Mo_near_28 : decode b_Mo_near 28 = .ok (.istore_n 3, 1) := by decide +kernel
theorem d_Mo_near_29 : decode b_Mo_near 29 = .ok (.bipush 20, 2) := by decide +kernel
theorem d_Mo_near_31 : decode b_Mo_near 31 = .ok (.istore 4, 2) := by decide +kernel
theorem d_Mo_near_33 : decode b_Mo_near 33 = .ok (.iload 4, 2) := by decide +kernel
theorem d_Mo_near_35 : decode b_Mo_near 35 = .ok (.sipush 140, 3) := by decide +kernel
theorem d_Mo_near_38 : decode b_Mo_near 38 = .ok (.if_icmp .ge 69, 3) := by decide +kernel
theorem d_Mo_near_41 : decode b_Mo_near 41 = .ok (.iload_n 1, 1) := by decide +kernel
theorem d_Mo_near_42 : decode b_Mo_near 42 = .ok (.ifCond .lt 65, 3) := by decide +kernel
theorem d_Mo_near_45 : decode b_Mo_near 45 = .ok (.iload 4, 2) := by decide +kernel
theorem d_Mo_near_47 : decode b_Mo_near 47 = .ok (.iconst 1, 1) := by decide +kernel
theorem d_Mo_near_48 : decode b_Mo_near 48 = .ok (.iadd, 1) := by decide +kernel
theorem d_Mo_near_49 : decode b_Mo_near 49 = .ok (.istore 5, 2) := by decide +kernel
theorem d_Mo_near_51 : decode b_Mo_near 51 = .ok (.iload 5, 2) := by decide +kernel
theorem d_Mo_near_53 : decode b_Mo_near 53 = .ok (.sipush 140, 3) := by decide +kernel
theorem d_Mo_near_56 : decode b_Mo_near 56 = .ok (.if_icmp .ge 45, 3) := by decide +kernel
theorem d_Mo_near_59 : decode b_Mo_near 59 = .ok (.aload_n 0, 1) := by decide +kernel
theorem d_Mo_near_60 : decode b_Mo_near 60 = .ok (.iload 4, 2) := by decide +kernel
theorem d_Mo_near_62 : decode b_Mo_near 62 = .ok (.iload 5, 2) := by decide +kernel
theorem d_Mo_near_64 : decode b_Mo_near 64 = .ok (.invokevirtual 242, 3) := by decide +kernel
theorem d_Mo_near_67 : decode b_Mo_near 67 = .ok (.ifCond .ne 6, 3) := by decide +kernel
theorem d_Mo_near_70 : decode b_Mo_near 70 = .ok (.goto 25, 3) := by decide +kernel
theorem d_Mo_near_73 : decode b_Mo_near 73 = .ok (.iload_n 3, 1) := by decide +kernel
theorem d_Mo_near_74 : decode b_Mo_near 74 = .ok (.ifCond .ne 18, 3) := by decide +kernel
theorem d_Mo_near_77 : decode b_Mo_near 77 = .ok (.iload_n 2, 1) := by decide +kernel
theorem d_Mo_near_78 : decode b_Mo_near 78 = .ok (.ifCond .ne 8, 3) := by decide +kernel
theorem d_Mo_near_81 : decode b_Mo_near 81 = .ok (.iload 4, 2) := by decide +kernel
theorem d_Mo_near_83 : decode b_Mo_near 83 = .ok (.goto 5, 3) := by decide +kernel
theorem d_Mo_near_86 : decode b_Mo_near 86 = .ok (.iload 5, 2) := by decide +kernel
theorem d_Mo_near_88 : decode b_Mo_near 88 = .ok (.invokestatic 143, 3) := by decide +kernel
theorem d_Mo_near_91 : decode b_Mo_near 91 = .ok (.ireturn, 1) := by decide +kernel
theorem d_Mo_near_92 : decode b_Mo_near 92 = .ok (.iinc 3 (-1), 3) := by decide +kernel
theorem d_Mo_near_95 : decode b_Mo_near 95 = .ok (.iinc 5 1, 3) := by decide +kernel
theorem d_Mo_near_98 : decode b_Mo_near 98 = .ok (.goto (-47), 3) := by decide +kernel
theorem d_Mo_near_101 : decode b_Mo_near 101 = .ok (.iinc 4 1, 3) := by decide +kernel
theorem d_Mo_near_104 : decode b_Mo_near 104 = .ok (.goto (-71), 3) := by decide +kernel
theorem d_Mo_near_107 : decode b_Mo_near 107 = .ok (.iconst (-1), 1) := by decide +kernel
theorem d_Mo_near_108 : decode b_Mo_near 108 = .ok (.ireturn, 1) := by decide +kernel
theorem d_Mo_at_0 : decode b_Mo_at 0 = .ok (.aload_n 0, 1) := by decide +kernel
theorem d_Mo_at_1 : decode b_Mo_at 1 = .ok (.iload_n 2, 1) := by decide +kernel
theorem d_Mo_at_2 : decode b_Mo_at 2 = .ok (.ifCond .lt 8, 3) := by decide +kernel
theorem d_Mo_at_5 : decode b_Mo_at 5 = .ok (.iload_n 2, 1) := by decide +kernel
theorem d_Mo_at_6 : decode b_Mo_at 6 = .ok (.iconst 5, 1) := by decide +kernel
theorem d_Mo_at_7 : decode b_Mo_at 7 = .ok (.if_icmp .le 7, 3) := by decide +kernel
theorem d_Mo_at_10 : decode b_Mo_at 10 = .ok (.iconst 1, 1) := by decide +kernel
theorem d_Mo_at_11 : decode b_Mo_at 11 = .ok (.goto 8, 3) := by decide +kernel
theorem d_Mo_at_14 : decode b_Mo_at 14 = .ok (.aload_n 0, 1) := by decide +kernel
theorem d_Mo_at_15 : decode b_Mo_at 15 = .ok (.iload_n 1, 1) := by decide +kernel
theorem d_Mo_at_16 : decode b_Mo_at 16 = .ok (.invokevirtual 195, 3) := by decide +kernel
theorem d_Mo_at_19 : decode b_Mo_at 19 = .ok (.putfield 100, 3) := by decide +kernel
theorem d_Mo_at_22 : decode b_Mo_at 22 = .ok (.aload_n 0, 1) := by decide +kernel
theorem d_Mo_at_23 : decode b_Mo_at 23 = .ok (.getfield 100, 3) := by decide +kernel
theorem d_Mo_at_26 : decode b_Mo_at 26 = .ok (.ifCond .eq 5, 3) := by decide +kernel
theorem d_Mo_at_29 : decode b_Mo_at 29 = .ok (.iconst 0, 1) := by decide +kernel
theorem d_Mo_at_30 : decode b_Mo_at 30 = .ok (.ireturn, 1) := by decide +kernel
theorem d_Mo_at_31 : decode b_Mo_at 31 = .ok (.iload_n 1, 1) := by decide +kernel
theorem d_Mo_at_32 : decode b_Mo_at 32 = .ok (.invokestatic 198, 3) := by decide +kernel
theorem d_Mo_at_35 : decode b_Mo_at 35 = .ok (.istore_n 3, 1) := by decide +kernel
theorem d_Mo_at_36 : decode b_Mo_at 36 = .ok (.iload_n 2, 1) := by decide +kernel
theorem d_Mo_at_37 : decode b_Mo_at 37 = .ok (.tableswitch 96 0 4 #[35, 50, 57, 64, 71], 35) := by decide +kernel
theorem d_Mo_at_72 : decode b_Mo_at 72 = .ok (.aload_n 0, 1) := by decide +kernel
theorem d_Mo_at_73 : decode b_Mo_at 73 = .ok (.getfield 13, 3) := by decide +kernel
theorem d_Mo_at_76 : decode b_Mo_at 76 = .ok (.iload_n 3, 1) := by decide +kernel
theorem d_Mo_at_77 : decode b_Mo_at 77 = .ok (.baload, 1) := by decide +kernel
theorem d_Mo_at_78 : decode b_Mo_at 78 = .ok (.ifCond .eq 7, 3) := by decide +kernel
theorem d_Mo_at_81 : decode b_Mo_at 81 = .ok (.iconst 1, 1) := by decide +kernel
theorem d_Mo_at_82 : decode b_Mo_at 82 = .ok (.goto 4, 3) := by decide +kernel
theorem d_Mo_at_85 : decode b_Mo_at 85 = .ok (.iconst 0, 1) := by decide +kernel
theorem d_Mo_at_86 : decode b_Mo_at 86 = .ok (.ireturn, 1) := by decide +kernel
theorem d_Mo_at_87 : decode b_Mo_at 87 = .ok (.aload_n 0, 1) := by decide +kernel
theorem d_Mo_at_88 : decode b_Mo_at 88 = .ok (.getfield 17, 3) := by decide +kernel
theorem d_Mo_at_91 : decode b_Mo_at 91 = .ok (.iload_n 3, 1) := by decide +kernel
theorem d_Mo_at_92 : decode b_Mo_at 92 = .ok (.iaload, 1) := by decide +kernel
theorem d_Mo_at_93 : decode b_Mo_at 93 = .ok (.ireturn, 1) := by decide +kernel
theorem d_Mo_at_94 : decode b_Mo_at 94 = .ok (.aload_n 0, 1) := by decide +kernel
theorem d_Mo_at_95 : decode b_Mo_at 95 = .ok (.getfield 20, 3) := by decide +kernel
theorem d_Mo_at_98 : decode b_Mo_at 98 = .ok (.iload_n 3, 1) := by decide +kernel
theorem d_Mo_at_99 : decode b_Mo_at 99 = .ok (.iaload, 1) := by decide +kernel
theorem d_Mo_at_100 : decode b_Mo_at 100 = .ok (.ireturn, 1) := by decide +kernel
theorem d_Mo_at_101 : decode b_Mo_at 101 = .ok (.aload_n 0, 1) := by decide +kernel
theorem d_Mo_at_102 : decode b_Mo_at 102 = .ok (.getfield 29, 3) := by decide +kernel
theorem d_Mo_at_105 : decode b_Mo_at 105 = .ok (.iload_n 3, 1) := by decide +kernel
theorem d_Mo_at_106 : decode b_Mo_at 106 = .ok (.iaload, 1) := by decide +kernel
theorem d_Mo_at_107 : decode b_Mo_at 107 = .ok (.ireturn, 1) := by decide +kernel
theorem d_Mo_at_108 : decode b_Mo_at 108 = .ok (.aload_n 0, 1) := by decide +kernel
theorem d_Mo_at_109 : decode b_Mo_at 109 = .ok (.getfield 32, 3) := by decide +kernel
theorem d_Mo_at_112 : decode b_Mo_at 112 = .ok (.iload_n 3, 1) := by decide +kernel
theorem d_Mo_at_113 : decode b_Mo_at 113 = .ok (.iaload, 1) := by decide +kernel
theorem d_Mo_at_114 : decode b_Mo_at 114 = .ok (.iconst (-1), 1) := by decide +kernel
theorem d_Mo_at_115 : decode b_Mo_at 115 = .ok (.if_icmp .ne 7, 3) := by decide +kernel
theorem d_Mo_at_118 : decode b_Mo_at 118 = .ok (.iconst (-1), 1) := by decide +kernel
theorem d_Mo_at_119 : decode b_Mo_at 119 = .ok (.goto 13, 3) := by decide +kernel
theorem d_Mo_at_122 : decode b_Mo_at 122 = .ok (.sipush 1000, 3) := by decide +kernel
theorem d_Mo_at_125 : decode b_Mo_at 125 = .ok (.aload_n 0, 1) := by decide +kernel
theorem d_Mo_at_126 : decode b_Mo_at 126 = .ok (.getfield 32, 3) := by decide +kernel
theorem d_Mo_at_129 : decode b_Mo_at 129 = .ok (.iload_n 3, 1) := by decide +kernel
theorem d_Mo_at_130 : decode b_Mo_at 130 = .ok (.iaload, 1) := by decide +kernel
theorem d_Mo_at_131 : decode b_Mo_at 131 = .ok (.iadd, 1) := by decide +kernel
theorem d_Mo_at_132 : decode b_Mo_at 132 = .ok (.ireturn, 1) := by decide +kernel
theorem d_Mo_at_133 : decode b_Mo_at 133 = .ok (.aload_n 0, 1) := by decide +kernel
theorem d_Mo_at_134 : decode b_Mo_at 134 = .ok (.getfield 35, 3) := by decide +kernel
theorem d_Mo_at_137 : decode b_Mo_at 137 = .ok (.iload_n 3, 1) := by decide +kernel
theorem d_Mo_at_138 : decode b_Mo_at 138 = .ok (.iaload, 1) := by decide +kernel
theorem d_Mo_at_139 : decode b_Mo_at 139 = .ok (.iconst (-1), 1) := by decide +kernel
theorem d_Mo_at_140 : decode b_Mo_at 140 = .ok (.if_icmp .ne 7, 3) := by decide +kernel
theorem d_Mo_at_143 : decode b_Mo_at 143 = .ok (.iconst (-1), 1) := by decide +kernel
theorem d_Mo_at_144 : decode b_Mo_at 144 = .ok (.goto 13, 3) := by decide +kernel
theorem d_Mo_at_147 : decode b_Mo_at 147 = .ok (.sipush 2000, 3) := by decide +kernel
theorem d_Mo_at_150 : decode b_Mo_at 150 = .ok (.aload_n 0, 1) := by decide +kernel
theorem d_Mo_at_151 : decode b_Mo_at 151 = .ok (.getfield 35, 3) := by decide +kernel
theorem d_Mo_at_154 : decode b_Mo_at 154 = .ok (.iload_n 3, 1) := by decide +kernel
theorem d_Mo_at_155 : decode b_Mo_at 155 = .ok (.iaload, 1) := by decide +kernel
theorem d_Mo_at_156 : decode b_Mo_at 156 = .ok (.iadd, 1) := by decide +kernel
theorem d_Mo_at_157 : decode b_Mo_at 157 = .ok (.ireturn, 1) := by decide +kernel
theorem d_Mo_count2_0 : decode b_Mo_count2 0 = .ok (.aload_n 0, 1) := by decide +kernel
theorem d_Mo_count2_1 : decode b_Mo_count2 1 = .ok (.iload_n 1, 1) := by decide +kernel
theorem d_Mo_count2_2 : decode b_Mo_count2 2 = .ok (.iconst 2, 1) := by decide +kernel
theorem d_Mo_count2_3 : decode b_Mo_count2 3 = .ok (.if_icmp .lt 12, 3) := by decide +kernel
theorem d_Mo_count2_6 : decode b_Mo_count2 6 = .ok (.iload_n 1, 1) := by decide +kernel
theorem d_Mo_count2_7 : decode b_Mo_count2 7 = .ok (.iconst 5, 1) := by decide +kernel
theorem d_Mo_count2_8 : decode b_Mo_count2 8 = .ok (.if_icmp .gt 7, 3) := by decide +kernel
theorem d_Mo_count2_11 : decode b_Mo_count2 11 = .ok (.iconst 0, 1) := by decide +kernel
theorem d_Mo_count2_12 : decode b_Mo_count2 12 = .ok (.goto 4, 3) := by decide +kernel
theorem d_Mo_count2_15 : decode b_Mo_count2 15 = .ok (.iconst 1, 1) := by decide +kernel
theorem d_Mo_count2_16 : decode b_Mo_count2 16 = .ok (.putfield 100, 3) := by decide +kernel
theorem d_Mo_count2_19 : decode b_Mo_count2 19 = .ok (.aload_n 0, 1) := by decide +kernel
theorem d_Mo_count2_20 : decode b_Mo_count2 20 = .ok (.getfield 100, 3) := by decide +kernel
theorem d_Mo_count2_23 : decode b_Mo_count2 23 = .ok (.ifCond .eq 5, 3) := by decide +kernel
theorem d_Mo_count2_26 : decode b_Mo_count2 26 = .ok (.iconst 0, 1) := by decide +kernel
theorem d_Mo_count2_27 : decode b_Mo_count2 27 = .ok (.ireturn, 1) := by decide +kernel
theorem d_Mo_count2_28 : decode b_Mo_count2 28 = .ok (.iconst 0, 1) := by decide +kernel
theorem d_Mo_count2_29 : decode b_Mo_count2 29 = .ok (.istore_n 2, 1) := by decide +kernel
theorem d_Mo_count2_30 : decode b_Mo_count2 30 = .ok (.iload_n 1, 1) := by decide +kernel
theorem d_Mo_count2_31 : decode b_Mo_count2 31 = .ok (.invokestatic 107, 3) := by decide +kernel
theorem d_Mo_count2_34 : decode b_Mo_count2 34 = .ok (.istore_n 3, 1) := by decide +kernel
theorem d_Mo_count2_35 : decode b_Mo_count2 35 = .ok (.iload_n 3, 1) := by decide +kernel
theorem d_Mo_count2_36 : decode b_Mo_count2 36 = .ok (.iload_n 1, 1) := by decide +kernel
theorem d_Mo_count2_37 : decode b_Mo_count2 37 = .ok (.invokestatic 107, 3) := by decide +kernel
theorem d_Mo_count2_40 : decode b_Mo_count2 40 = .ok (.aload_n 0, 1) := by decide +kernel
theorem d_Mo_count2_41 : decode b_Mo_count2 41 = .ok (.getfield 7, 3) := by decide +kernel
theorem d_Mo_count2_44 : decode b_Mo_count2 44 = .ok (.iload_n 1, 1) := by decide +kernel
theorem d_Mo_count2_45 : decode b_Mo_count2 45 = .ok (.iaload, 1) := by decide +kernel
theorem d_Mo_count2_46 : decode b_Mo_count2 46 = .ok (.iadd, 1) := by decide +kernel
theorem d_Mo_count2_47 : decode b_Mo_count2 47 = .ok (.if_icmp .ge 26, 3) := by decide +kernel
theorem d_Mo_count2_50 : decode b_Mo_count2 50 = .ok (.iload_n 2, 1) := by decide +kernel
theorem d_Mo_count2_51 : decode b_Mo_count2 51 = .ok (.aload_n 0, 1) := by decide +kernel
theorem d_Mo_count2_52 : decode b_Mo_count2 52 = .ok (.getfield 13, 3) := by decide +kernel
theorem d_Mo_count2_55 : decode b_Mo_count2 55 = .ok (.iload_n 3, 1) := by decide +kernel
theorem d_Mo_count2_56 : decode b_Mo_count2 56 = .ok (.baload, 1) := by decide +kernel
theorem d_Mo_count2_57 : decode b_Mo_count2 57 = .ok (.ifCond .eq 7, 3) := by decide +kernel
theorem d_Mo_count2_60 : decode b_Mo_count2 60 = .ok (.iconst 1, 1) := by decide +kernel
theorem d_Mo_count2_61 : decode b_Mo_count2 61 = .ok (.goto 4, 3) := by decide +kernel
theorem d_Mo_count2_64 : decode b_Mo_count2 64 = .ok (.iconst 0, 1) := by decide +kernel
theorem d_Mo_count2_65 : decode b_Mo_count2 65 = .ok (.iadd, 1) := by decide +kernel
theorem d_Mo_count2_66 : decode b_Mo_count2 66 = .ok (.istore_n 2, 1) := by decide +kernel
theorem d_Mo_count2_67 : decode b_Mo_count2 67 = .ok (.iinc 3 1, 3) := by decide +kernel
theorem d_Mo_count2_70 : decode b_Mo_count2 70 = .ok (.goto (-35), 3) := by decide +kernel
theorem d_Mo_count2_73 : decode b_Mo_count2 73 = .ok (.iload_n 2, 1) := by decide +kernel
theorem d_Mo_count2_74 : decode b_Mo_count2 74 = .ok (.ireturn, 1) := by decide +kernel
theorem d_Mo_begin_0 : decode b_Mo_begin 0 = .ok (.aload_n 0, 1) := by decide +kernel
theorem d_Mo_begin_1 : decode b_Mo_begin 1 = .ok (.iconst 0, 1) := by decide +kernel
theorem d_Mo_begin_2 : decode b_Mo_begin 2 = .ok (.putfield 100, 3) := by decide +kernel
theorem d_Mo_begin_5 : decode b_Mo_begin 5 = .ok (.aload_n 0, 1) := by decide +kernel
theorem d_Mo_begin_6 : decode b_Mo_begin 6 = .ok (.bipush 6, 2) := by decide +kernel
theorem d_Mo_begin_8 : decode b_Mo_begin 8 = .ok (.invokevirtual 152, 3) := by decide +kernel
theorem d_Mo_begin_11 : decode b_Mo_begin 11 = .ok (.ifCond .eq 9, 3) := by decide +kernel
theorem d_Mo_begin_14 : decode b_Mo_begin 14 = .ok (.aload_n 0, 1) := by decide +kernel
theorem d_Mo_begin_15 : decode b_Mo_begin 15 = .ok (.iconst 1, 1) := by decide +kernel
theorem d_Mo_begin_16 : decode b_Mo_begin 16 = .ok (.invokevirtual 155, 3) := by decide +kernel
theorem d_Mo_begin_19 : decode b_Mo_begin 19 = .ok (.ireturn, 1) := by decide +kernel
theorem d_Mo_begin_20 : decode b_Mo_begin 20 = .ok (.iload_n 1, 1) := by decide +kernel
theorem d_Mo_begin_21 : decode b_Mo_begin 21 = .ok (.iload_n 2, 1) := by decide +kernel
theorem d_Mo_begin_22 : decode b_Mo_begin 22 = .ok (.invokestatic 114, 3) := by decide +kernel
theorem d_Mo_begin_25 : decode b_Mo_begin 25 = .ok (.ifCond .eq 23, 3) := by decide +kernel
theorem d_Mo_begin_28 : decode b_Mo_begin 28 = .ok (.iload_n 3, 1) := by decide +kernel
theorem d_Mo_begin_29 : decode b_Mo_begin 29 = .ok (.iload 4, 2) := by decide +kernel
theorem d_Mo_begin_31 : decode b_Mo_begin 31 = .ok (.invokestatic 114, 3) := by decide +kernel
theorem d_Mo_begin_34 : decode b_Mo_begin 34 = .ok (.ifCond .eq 14, 3) := by decide +kernel
theorem d_Mo_begin_37 : decode b_Mo_begin 37 = .ok (.iload_n 1, 1) := by decide +kernel
theorem d_Mo_begin_38 : decode b_Mo_begin 38 = .ok (.iload_n 3, 1) := by decide +kernel
theorem d_Mo_begin_39 : decode b_Mo_begin 39 = .ok (.if_icmp .gt 9, 3) := by decide +kernel
theorem d_Mo_begin_42 : decode b_Mo_begin 42 = .ok (.iload_n 2, 1) := by decide +kernel
theorem d_Mo_begin_43 : decode b_Mo_begin 43 = .ok (.iload 4, 2) := by decide +kernel
theorem d_Mo_begin_45 : decode b_Mo_begin 45 = .ok (.if_icmp .le 9, 3) := by decide +kernel
theorem d_Mo_begin_48 : decode b_Mo_begin 48 = .ok (.aload_n 0, 1) := by decide +kernel
theorem d_Mo_begin_49 : decode b_Mo_begin 49 = .ok (.iconst 2, 1) := by decide +kernel
theorem d_Mo_begin_50 : decode b_Mo_begin 50 = .ok (.invokevirtual 155, 3) := by decide +kernel
theorem d_Mo_begin_53 : decode b_Mo_begin 53 = .ok (.ireturn, 1) := by decide +kernel
theorem d_Mo_begin_54 : decode b_Mo_begin 54 = .ok (.iconst 0, 1) := by decide +kernel
theorem d_Mo_begin_55 : decode b_Mo_begin 55 = .ok (.istore 5, 2) := by decide +kernel
theorem d_Mo_begin_57 : decode b_Mo_begin 57 = .ok (.iload 5, 2) := by decide +kernel
theorem d_Mo_begin_59 : decode b_Mo_begin 59 = .ok (.aload_n 0, 1) := by decide +kernel
theorem d_Mo_begin_60 : decode b_Mo_begin 60 = .ok (.getfield 7, 3) := by decide +kernel
theorem d_Mo_begin_63 : decode b_Mo_begin 63 = .ok (.bipush 6, 2) := by decide +kernel
theorem d_Mo_begin_65 : decode b_Mo_begin 65 = .ok (.iaload, 1) := by decide +kernel
theorem d_Mo_begin_66 : decode b_Mo_begin 66 = .ok (.if_icmp .ge 47, 3) := by decide +kernel
theorem d_Mo_begin_69 : decode b_Mo_begin 69 = .ok (.aload_n 0, 1) := by decide +kernel
theorem d_Mo_begin_70 : decode b_Mo_begin 70 = .ok (.getfield 42, 3) := by decide +kernel
theorem d_Mo_begin_73 : decode b_Mo_begin 73 = .ok (.iload 5, 2) := by decide +kernel
theorem d_Mo_begin_75 : decode b_Mo_begin 75 = .ok (.baload, 1) := by decide +kernel
theorem d_Mo_begin_76 : decode b_Mo_begin 76 = .ok (.ifCond .eq 31, 3) := by decide +kernel
theorem d_Mo_begin_79 : decode b_Mo_begin 79 = .ok (.aload_n 0, 1) := by decide +kernel
theorem d_Mo_begin_80 : decode b_Mo_begin 80 = .ok (.iload 5, 2) := by decide +kernel
theorem d_Mo_begin_82 : decode b_Mo_begin 82 = .ok (.iload_n 1, 1) := by decide +kernel
theorem d_Mo_begin_83 : decode b_Mo_begin 83 = .ok (.iload_n 2, 1) := by decide +kernel
theorem d_Mo_begin_84 : decode b_Mo_begin 84 = .ok (.iload_n 3, 1) := by decide +kernel
theorem d_Mo_begin_85 : decode b_Mo_begin 85 = .ok (.iload_n 1, 1) := by decide +kernel
theorem d_Mo_begin_86 : decode b_Mo_begin 86 = .ok (.isub, 1) := by decide +kernel
theorem d_Mo_begin_87 : decode b_Mo_begin 87 = .ok (.iconst 1, 1) := by decide +kernel
theorem d_Mo_begin_88 : decode b_Mo_begin 88 = .ok (.iadd, 1) := by decide +kernel
theorem d_Mo_begin_89 : decode b_Mo_begin 89 = .ok (.iload 4, 2) := by decide +kernel
theorem d_Mo_begin_91 : decode b_Mo_begin 91 = .ok (.iload_n 2, 1) := by decide +kernel
theorem d_Mo_begin_92 : decode b_Mo_begin 92 = .ok (.isub, 1) := by decide +kernel
theorem d_Mo_begin_93 : decode b_Mo_begin 93 = .ok (.iconst 1, 1) := by decide +kernel
theorem d_Mo_begin_94 : decode b_Mo_begin 94 = .ok (.iadd, 1) := by decide +kernel
theorem d_Mo_begin_95 : decode b_Mo_begin 95 = .ok (.invokevirtual 118, 3) := by decide +kernel
theorem d_Mo_begin_98 : decode b_Mo_begin 98 = .ok (.ifCond .eq 9, 3) := by decide +kernel
theorem d_Mo_begin_101 : decode b_Mo_begin 101 = .ok (.aload_n 0, 1) := by decide +kernel
theorem d_Mo_begin_102 : decode b_Mo_begin 102 = .ok (.iconst 3, 1) := by decide +kernel
theorem d_Mo_begin_103 : decode b_Mo_begin 103 = .ok (.invokevirtual 155, 3) := by decide +kernel
theorem d_Mo_begin_106 : decode b_Mo_begin 106 = .ok (.ireturn, 1) := by decide +kernel
theorem d_Mo_begin_107 : decode b_Mo_begin 107 = .ok (.iinc 5 1, 3) := by decide +kernel
theorem d_Mo_begin_110 : decode b_Mo_begin 110 = .ok (.goto (-53), 3) := by decide +kernel
theorem d_Mo_begin_113 : decode b_Mo_begin 113 = .ok (.aload_n 0, 1) := by decide +kernel
theorem d_Mo_begin_114 : decode b_Mo_begin 114 = .ok (.iconst 0, 1) := by decide +kernel
theorem d_Mo_begin_115 : decode b_Mo_begin 115 = .ok (.putfield 149, 3) := by decide +kernel
theorem d_Mo_begin_118 : decode b_Mo_begin 118 = .ok (.aload_n 0, 1) := by decide +kernel
theorem d_Mo_begin_119 : decode b_Mo_begin 119 = .ok (.getfield 7, 3) := by decide +kernel
theorem d_Mo_begin_122 : decode b_Mo_begin 122 = .ok (.bipush 6, 2) := by decide +kernel
theorem d_Mo_begin_124 : decode b_Mo_begin 124 = .ok (.iaload, 1) := by decide +kernel
theorem d_Mo_begin_125 : decode b_Mo_begin 125 = .ok (.istore 5, 2) := by decide +kernel
theorem d_Mo_begin_127 : decode b_Mo_begin 127 = .ok (.aload_n 0, 1) := by decide +kernel
theorem d_Mo_begin_128 : decode b_Mo_begin 128 = .ok (.getfield 7, 3) := by decide +kernel
theorem d_Mo_begin_131 : decode b_Mo_begin 131 = .ok (.bipush 6, 2) := by decide +kernel
theorem d_Mo_begin_133 : decode b_Mo_begin 133 = .ok (.dup2, 1) := by decide +kernel
theorem d_Mo_begin_134 : decode b_Mo_begin 134 = .ok (.iaload, 1) := by decide +kernel
theorem d_Mo_begin_135 : decode b_Mo_begin 135 = .ok (.iconst 1, 1) := by decide +kernel
theorem d_Mo_begin_136 : decode b_Mo_begin 136 = .ok (.iadd, 1) := by decide +kernel
theorem d_Mo_begin_137 : decode b_Mo_begin 137 = .ok (.iastore, 1) := by decide +kernel
theorem d_Mo_begin_138 : decode b_Mo_begin 138 = .ok (.aload_n 0, 1) := by decide +kernel
theorem d_Mo_begin_139 : decode b_Mo_begin 139 = .ok (.getfield 42, 3) := by decide +kernel
theorem d_Mo_begin_142 : decode b_Mo_begin 142 = .ok (.iload 5, 2) := by decide +kernel
theorem d_Mo_begin_144 : decode b_Mo_begin 144 = .ok (.iconst 1, 1) := by decide +kernel
theorem d_Mo_begin_145 : decode b_Mo_begin 145 = .ok (.bastore, 1) := by decide +kernel
theorem d_Mo_begin_146 : decode b_Mo_begin 146 = .ok (.aload_n 0, 1) := by decide +kernel
theorem d_Mo_begin_147 : decode b_Mo_begin 147 = .ok (.getfield 45, 3) := by decide +kernel
theorem d_Mo_begin_150 : decode b_Mo_begin 150 = .ok (.iload 5, 2) := by decide +kernel
theorem d_Mo_begin_152 : decode b_Mo_begin 152 = .ok (.iload_n 1, 1) := by decide +kernel
theorem d_Mo_begin_153 : decode b_Mo_begin 153 = .ok (.iastore, 1) := by decide +kernel
theorem d_Mo_begin_154 : decode b_Mo_begin 154 = .ok (.aload_n 0, 1) := by decide +kernel
theorem d_Mo_begin_155 : decode b_Mo_begin 155 = .ok (.getfield 48, 3) := by decide +kernel
theorem d_Mo_begin_158 : decode b_Mo_begin 158 = .ok (.iload 5, 2) := by decide +kernel
theorem d_Mo_begin_160 : decode b_Mo_begin 160 = .ok (.iload_n 2, 1) := by decide +kernel
theorem d_Mo_begin_161 : decode b_Mo_begin 161 = .ok (.iastore, 1) := by decide +kernel
theorem d_Mo_begin_162 : decode b_Mo_begin 162 = .ok (.aload_n 0, 1) := by decide +kernel
theorem d_Mo_begin_163 : decode b_Mo_begin 163 = .ok (.getfield 51, 3) := by decide +kernel
theorem d_Mo_begin_166 : decode b_Mo_begin 166 = .ok (.iload 5, 2) := by decide +kernel
theorem d_Mo_begin_168 : decode b_Mo_begin 168 = .ok (.iload_n 3, 1) := by decide +kernel
theorem d_Mo_begin_169 : decode b_Mo_begin 169 = .ok (.iastore, 1) := by decide +kernel
theorem d_Mo_begin_170 : decode b_Mo_begin 170 = .ok (.aload_n 0, 1) := by decide +kernel
theorem d_Mo_begin_171 : decode b_Mo_begin 171 = .ok (.getfield 54, 3) := by decide +kernel
theorem d_Mo_begin_174 : decode b_Mo_begin 174 = .ok (.iload 5, 2) := by decide +kernel
theorem d_Mo_begin_176 : decode b_Mo_begin 176 = .ok (.iload 4, 2) := by decide +kernel
theorem d_Mo_begin_178 : decode b_Mo_begin 178 = .ok (.iastore, 1) := by decide +kernel
theorem d_Mo_begin_179 : decode b_Mo_begin 179 = .ok (.sipush 6000, 3) := by decide +kernel
theorem d_Mo_begin_182 : decode b_Mo_begin 182 = .ok (.iload 5, 2) := by decide +kernel
theorem d_Mo_begin_184 : decode b_Mo_begin 184 = .ok (.iadd, 1) := by decide +kernel
theorem d_Mo_begin_185 : decode b_Mo_begin 185 = .ok (.ireturn, 1) := by decide +kernel
theorem d_Mo_actFault_0 : decode b_Mo_actFault 0 = .ok (.aload_n 0, 1) := by decide +kernel
theorem d_Mo_actFault_1 : decode b_Mo_actFault 1 = .ok (.iload_n 1, 1) := by decide +kernel
theorem d_Mo_actFault_2 : decode b_Mo_actFault 2 = .ok (.bipush 6, 2) := by decide +kernel
theorem d_Mo_actFault_4 : decode b_Mo_actFault 4 = .ok (.invokevirtual 176, 3) := by decide +kernel
theorem d_Mo_actFault_7 : decode b_Mo_actFault 7 = .ok (.istore_n 2, 1) := by decide +kernel
theorem d_Mo_actFault_8 : decode b_Mo_actFault 8 = .ok (.iload_n 2, 1) := by decide +kernel
theorem d_Mo_actFault_9 : decode b_Mo_actFault 9 = .ok (.ifCond .ne 20, 3) := by decide +kernel
theorem d_Mo_actFault_12 : decode b_Mo_actFault 12 = .ok (.aload_n 0, 1) := by decide +kernel
theorem d_Mo_actFault_13 : decode b_Mo_actFault 13 = .ok (.getfield 42, 3) := by decide +kernel
theorem d_Mo_actFault_16 : decode b_Mo_actFault 16 = .ok (.iload_n 1, 1) := by decide +kernel
theorem d_Mo_actFault_17 : decode b_Mo_actFault 17 = .ok (.sipush 1000, 3) := by decide +kernel
theorem d_Mo_actFault_20 : decode b_Mo_actFault 20 = .ok (.irem, 1) := by decide +kernel
theorem d_Mo_actFault_21 : decode b_Mo_actFault 21 = .ok (.baload, 1) := by decide +kernel
theorem d_Mo_actFault_22 : decode b_Mo_actFault 22 = .ok (.ifCond .ne 7, 3) := by decide +kernel
theorem d_Mo_actFault_25 : decode b_Mo_actFault 25 = .ok (.iconst 3, 1) := by decide +kernel
theorem d_Mo_actFault_26 : decode b_Mo_actFault 26 = .ok (.goto 4, 3) := by decide +kernel
theorem d_Mo_actFault_29 : decode b_Mo_actFault 29 = .ok (.iload_n 2, 1) := by decide +kernel
theorem d_Mo_actFault_30 : decode b_Mo_actFault 30 = .ok (.ireturn, 1) := by decide +kernel
theorem d_Mo_work_0 : decode b_Mo_work 0 = .ok (.aload_n 0, 1) := by decide +kernel
theorem d_Mo_work_1 : decode b_Mo_work 1 = .ok (.iload_n 1, 1) := by decide +kernel
theorem d_Mo_work_2 : decode b_Mo_work 2 = .ok (.ifCond .ne 7, 3) := by decide +kernel
theorem d_Mo_work_5 : decode b_Mo_work 5 = .ok (.iconst 0, 1) := by decide +kernel
theorem d_Mo_work_6 : decode b_Mo_work 6 = .ok (.goto 8, 3) := by decide +kernel
theorem d_Mo_work_9 : decode b_Mo_work 9 = .ok (.aload_n 0, 1) := by decide +kernel
theorem d_Mo_work_10 : decode b_Mo_work 10 = .ok (.iload_n 1, 1) := by decide +kernel
theorem d_Mo_work_11 : decode b_Mo_work 11 = .ok (.invokevirtual 245, 3) := by decide +kernel
theorem d_Mo_work_14 : decode b_Mo_work 14 = .ok (.putfield 100, 3) := by decide +kernel
theorem d_Mo_work_17 : decode b_Mo_work 17 = .ok (.aload_n 0, 1) := by decide +kernel
theorem d_Mo_work_18 : decode b_Mo_work 18 = .ok (.getfield 100, 3) := by decide +kernel
theorem d_Mo_work_21 : decode b_Mo_work 21 = .ok (.ifCond .eq 5, 3) := by decide +kernel
theorem d_Mo_work_24 : decode b_Mo_work 24 = .ok (.iconst 0, 1) := by decide +kernel
theorem d_Mo_work_25 : decode b_Mo_work 25 = .ok (.ireturn, 1) := by decide +kernel
theorem d_Mo_work_26 : decode b_Mo_work 26 = .ok (.iload_n 1, 1) := by decide +kernel
theorem d_Mo_work_27 : decode b_Mo_work 27 = .ok (.ifCond .ne 7, 3) := by decide +kernel
theorem d_Mo_work_30 : decode b_Mo_work 30 = .ok (.iconst (-1), 1) := by decide +kernel
theorem d_Mo_work_31 : decode b_Mo_work 31 = .ok (.goto 8, 3) := by decide +kernel
theorem d_Mo_work_34 : decode b_Mo_work 34 = .ok (.iload_n 1, 1) := by decide +kernel
theorem d_Mo_work_35 : decode b_Mo_work 35 = .ok (.sipush 1000, 3) := by decide +kernel
theorem d_Mo_work_38 : decode b_Mo_work 38 = .ok (.irem, 1) := by decide +kernel
theorem d_Mo_work_39 : decode b_Mo_work 39 = .ok (.istore_n 2, 1) := by decide +kernel
theorem d_Mo_work_40 : decode b_Mo_work 40 = .ok (.iload_n 2, 1) := by decide +kernel
theorem d_Mo_work_41 : decode b_Mo_work 41 = .ok (.aload_n 0, 1) := by decide +kernel
theorem d_Mo_work_42 : decode b_Mo_work 42 = .ok (.getfield 38, 3) := by decide +kernel
theorem d_Mo_work_45 : decode b_Mo_work 45 = .ok (.if_icmp .eq 7, 3) := by decide +kernel
theorem d_Mo_work_48 : decode b_Mo_work 48 = .ok (.iconst 1, 1) := by decide +kernel
theorem d_Mo_work_49 : decode b_Mo_work 49 = .ok (.goto 4, 3) := by decide +kernel
theorem d_Mo_work_52 : decode b_Mo_work 52 = .ok (.iconst 0, 1) := by decide +kernel
theorem d_Mo_work_53 : decode b_Mo_work 53 = .ok (.istore_n 3, 1) := by decide +kernel
theorem d_Mo_work_54 : decode b_Mo_work 54 = .ok (.aload_n 0, 1) := by decide +kernel
theorem d_Mo_work_55 : decode b_Mo_work 55 = .ok (.iload_n 2, 1) := by decide +kernel
theorem d_Mo_work_56 : decode b_Mo_work 56 = .ok (.putfield 38, 3) := by decide +kernel
theorem d_Mo_work_59 : decode b_Mo_work 59 = .ok (.iload_n 3, 1) := by decide +kernel
theorem d_Mo_work_60 : decode b_Mo_work 60 = .ok (.ireturn, 1) := by decide +kernel
theorem d_Mo_end_0 : decode b_Mo_end 0 = .ok (.aload_n 0, 1) := by decide +kernel
theorem d_Mo_end_1 : decode b_Mo_end 1 = .ok (.aload_n 0, 1) := by decide +kernel
theorem d_Mo_end_2 : decode b_Mo_end 2 = .ok (.iload_n 1, 1) := by decide +kernel
theorem d_Mo_end_3 : decode b_Mo_end 3 = .ok (.invokevirtual 245, 3) := by decide +kernel
theorem d_Mo_end_6 : decode b_Mo_end 6 = .ok (.putfield 100, 3) := by decide +kernel
theorem d_Mo_end_9 : decode b_Mo_end 9 = .ok (.aload_n 0, 1) := by decide +kernel
theorem d_Mo_end_10 : decode b_Mo_end 10 = .ok (.getfield 100, 3) := by decide +kernel
theorem d_Mo_end_13 : decode b_Mo_end 13 = .ok (.ifCond .eq 5, 3) := by decide +kernel
theorem d_Mo_end_16 : decode b_Mo_end 16 = .ok (.iconst 0, 1) := by decide +kernel
theorem d_Mo_end_17 : decode b_Mo_end 17 = .ok (.ireturn, 1) := by decide +kernel
theorem d_Mo_end_18 : decode b_Mo_end 18 = .ok (.iload_n 1, 1) := by decide +kernel
theorem d_Mo_end_19 : decode b_Mo_end 19 = .ok (.sipush 1000, 3) := by decide +kernel
theorem d_Mo_end_22 : decode b_Mo_end 22 = .ok (.irem, 1) := by decide +kernel
theorem d_Mo_end_23 : decode b_Mo_end 23 = .ok (.istore_n 3, 1) := by decide +kernel
theorem d_Mo_end_24 : decode b_Mo_end 24 = .ok (.aload_n 0, 1) := by decide +kernel
theorem d_Mo_end_25 : decode b_Mo_end 25 = .ok (.getfield 42, 3) := by decide +kernel
theorem d_Mo_end_28 : decode b_Mo_end 28 = .ok (.iload_n 3, 1) := by decide +kernel
theorem d_Mo_end_29 : decode b_Mo_end 29 = .ok (.iconst 0, 1) := by decide +kernel
theorem d_Mo_end_30 : decode b_Mo_end 30 = .ok (.bastore, 1) := by decide +kernel
theorem d_Mo_end_31 : decode b_Mo_end 31 = .ok (.aload_n 0, 1) := by decide +kernel
theorem d_Mo_end_32 : decode b_Mo_end 32 = .ok (.aload_n 0, 1) := by decide +kernel
theorem d_Mo_end_33 : decode b_Mo_end 33 = .ok (.getfield 38, 3) := by decide +kernel
theorem d_Mo_end_36 : decode b_Mo_end 36 = .ok (.iload_n 3, 1) := by decide +kernel
theorem d_Mo_end_37 : decode b_Mo_end 37 = .ok (.if_icmp .ne 7, 3) := by decide +kernel
theorem d_Mo_end_40 : decode b_Mo_end 40 = .ok (.iconst (-1), 1) := by decide +kernel
theorem d_Mo_end_41 : decode b_Mo_end 41 = .ok (.goto 7, 3) := by decide +kernel
theorem d_Mo_end_44 : decode b_Mo_end 44 = .ok (.aload_n 0, 1) := by decide +kernel
theorem d_Mo_end_45 : decode b_Mo_end 45 = .ok (.getfield 38, 3) := by decide +kernel
theorem d_Mo_end_48 : decode b_Mo_end 48 = .ok (.putfield 38, 3) := by decide +kernel
theorem d_Mo_end_51 : decode b_Mo_end 51 = .ok (.iconst 0, 1) := by decide +kernel
theorem d_Mo_end_52 : decode b_Mo_end 52 = .ok (.istore 4, 2) := by decide +kernel
theorem d_Mo_end_54 : decode b_Mo_end 54 = .ok (.iload 4, 2) := by decide +kernel
theorem d_Mo_end_56 : decode b_Mo_end 56 = .ok (.sipush 150, 3) := by decide +kernel
theorem d_Mo_end_59 : decode b_Mo_end 59 = .ok (.if_icmp .ge 78, 3) := by decide +kernel
theorem d_Mo_end_62 : decode b_Mo_end 62 = .ok (.iload_n 2, 1) := by decide +kernel
theorem d_Mo_end_63 : decode b_Mo_end 63 = .ok (.ifCond .ne 74, 3) := by decide +kernel
theorem d_Mo_end_66 : decode b_Mo_end 66 = .ok (.sipush 150, 3) := by decide +kernel
theorem d_Mo_end_69 : decode b_Mo_end 69 = .ok (.iload_n 3, 1) := by decide +kernel
theorem d_Mo_end_70 : decode b_Mo_end 70 = .ok (.imul, 1) := by decide +kernel
theorem d_Mo_end_71 : decode b_Mo_end 71 = .ok (.iload 4, 2) := by decide +kernel
theorem d_Mo_end_73 : decode b_Mo_end 73 = .ok (.iadd, 1) := by decide +kernel
theorem d_Mo_end_74 : decode b_Mo_end 74 = .ok (.istore 5, 2) := by decide +kernel
theorem d_Mo_end_76 : decode b_Mo_end 76 = .ok (.aload_n 0, 1) := by decide +kernel
theorem d_Mo_end_77 : decode b_Mo_end 77 = .ok (.getfield 60, 3) := by decide +kernel
theorem d_Mo_end_80 : decode b_Mo_end 80 = .ok (.iload 5, 2) := by decide +kernel
theorem d_Mo_end_82 : decode b_Mo_end 82 = .ok (.baload, 1) := by decide +kernel
theorem d_Mo_end_83 : decode b_Mo_end 83 = .ok (.ifCond .ne 6, 3) := by decide +kernel
theorem d_Mo_end_86 : decode b_Mo_end 86 = .ok (.goto 45, 3) := by decide +kernel
theorem d_Mo_end_89 : decode b_Mo_end 89 = .ok (.aload_n 0, 1) := by decide +kernel
theorem d_Mo_end_90 : decode b_Mo_end 90 = .ok (.getfield 13, 3) := by decide +kernel
theorem d_Mo_end_93 : decode b_Mo_end 93 = .ok (.iload 4, 2) := by decide +kernel
theorem d_Mo_end_95 : decode b_Mo_end 95 = .ok (.aload_n 0, 1) := by decide +kernel
theorem d_Mo_end_96 : decode b_Mo_end 96 = .ok (.getfield 63, 3) := by decide +kernel
theorem d_Mo_end_99 : decode b_Mo_end 99 = .ok (.iload 5, 2) := by decide +kernel
theorem d_Mo_end_101 : decode b_Mo_end 101 = .ok (.baload, 1) := by decide +kernel
theorem d_Mo_end_102 : decode b_Mo_end 102 = .ok (.bastore, 1) := by decide +kernel
theorem d_Mo_end_103 : decode b_Mo_end 103 = .ok (.aload_n 0, 1) := by decide +kernel
theorem d_Mo_end_104 : decode b_Mo_end 104 = .ok (.getfield 17, 3) := by decide +kernel
theorem d_Mo_end_107 : decode b_Mo_end 107 = .ok (.iload 4, 2) := by decide +kernel
theorem d_Mo_end_109 : decode b_Mo_end 109 = .ok (.aload_n 0, 1) := by decide +kernel
theorem d_Mo_end_110 : decode b_Mo_end 110 = .ok (.getfield 66, 3) := by decide +kernel
theorem d_Mo_end_113 : decode b_Mo_end 113 = .ok (.iload 5, 2) := by decide +kernel
theorem d_Mo_end_115 : decode b_Mo_end 115 = .ok (.iaload, 1) := by decide +kernel
theorem d_Mo_end_116 : decode b_Mo_end 116 = .ok (.iastore, 1) := by decide +kernel
theorem d_Mo_end_117 : decode b_Mo_end 117 = .ok (.aload_n 0, 1) := by decide +kernel
theorem d_Mo_end_118 : decode b_Mo_end 118 = .ok (.getfield 20, 3) := by decide +kernel
theorem d_Mo_end_121 : decode b_Mo_end 121 = .ok (.iload 4, 2) := by decide +kernel
theorem d_Mo_end_123 : decode b_Mo_end 123 = .ok (.aload_n 0, 1) := by decide +kernel
theorem d_Mo_end_124 : decode b_Mo_end 124 = .ok (.getfield 69, 3) := by decide +kernel
theorem d_Mo_end_127 : decode b_Mo_end 127 = .ok (.iload 5, 2) := by decide +kernel
theorem d_Mo_end_129 : decode b_Mo_end 129 = .ok (.iaload, 1) := by decide +kernel
theorem d_Mo_end_130 : decode b_Mo_end 130 = .ok (.iastore, 1) := by decide +kernel
theorem d_Mo_end_131 : decode b_Mo_end 131 = .ok (.iinc 4 1, 3) := by decide +kernel
theorem d_Mo_end_134 : decode b_Mo_end 134 = .ok (.goto (-80), 3) := by decide +kernel
theorem d_Mo_end_137 : decode b_Mo_end 137 = .ok (.aload_n 0, 1) := by decide +kernel
theorem d_Mo_end_138 : decode b_Mo_end 138 = .ok (.getfield 57, 3) := by decide +kernel
theorem d_Mo_end_141 : decode b_Mo_end 141 = .ok (.iload_n 3, 1) := by decide +kernel
theorem d_Mo_end_142 : decode b_Mo_end 142 = .ok (.iaload, 1) := by decide +kernel
theorem d_Mo_end_143 : decode b_Mo_end 143 = .ok (.ireturn, 1) := by decide +kernel
theorem d_Mo_hasOpen_0 : decode b_Mo_hasOpen 0 = .ok (.iconst 0, 1) := by decide +kernel
theorem d_Mo_hasOpen_1 : decode b_Mo_hasOpen 1 = .ok (.istore_n 1, 1) := by decide +kernel
theorem d_Mo_hasOpen_2 : decode b_Mo_hasOpen 2 = .ok (.iconst 0, 1) := by decide +kernel
theorem d_Mo_hasOpen_3 : decode b_Mo_hasOpen 3 = .ok (.istore_n 2, 1) := by decide +kernel
theorem d_Mo_hasOpen_4 : decode b_Mo_hasOpen 4 = .ok (.iload_n 2, 1) := by decide +kernel
theorem d_Mo_hasOpen_5 : decode b_Mo_hasOpen 5 = .ok (.bipush 10, 2) := by decide +kernel
theorem d_Mo_hasOpen_7 : decode b_Mo_hasOpen 7 = .ok (.if_icmp .ge 28, 3) := by decide +kernel
theorem d_Mo_hasOpen_10 : decode b_Mo_hasOpen 10 = .ok (.iload_n 1, 1) := by decide +kernel
theorem d_Mo_hasOpen_11 : decode b_Mo_hasOpen 11 = .ok (.ifCond .ne 12, 3) := by decide +kernel
theorem d_Mo_hasOpen_14 : decode b_Mo_hasOpen 14 = .ok (.aload_n 0, 1) := by decide +kernel
theorem d_Mo_hasOpen_15 : decode b_Mo_hasOpen 15 = .ok (.getfield 42, 3) := by decide +kernel
theorem d_Mo_hasOpen_18 : decode b_Mo_hasOpen 18 = .ok (.iload_n 2, 1) := by decide +kernel
theorem d_Mo_hasOpen_19 : decode b_Mo_hasOpen 19 = .ok (.baload, 1) := by decide +kernel
theorem d_Mo_hasOpen_20 : decode b_Mo_hasOpen 20 = .ok (.ifCond .eq 7, 3) := by decide +kernel
theorem d_Mo_hasOpen_23 : decode b_Mo_hasOpen 23 = .ok (.iconst 1, 1) := by decide +kernel
theorem d_Mo_hasOpen_24 : decode b_Mo_hasOpen 24 = .ok (.goto 4, 3) := by decide +kernel
theorem d_Mo_hasOpen_27 : decode b_Mo_hasOpen 27 = .ok (.iconst 0, 1) := by decide +kernel
theorem d_Mo_hasOpen_28 : decode b_Mo_hasOpen 28 = .ok (.istore_n 1, 1) := by decide +kernel
theorem d_Mo_hasOpen_29 : decode b_Mo_hasOpen 29 = .ok (.iinc 2 1, 3) := by decide +kernel
theorem d_Mo_hasOpen_32 : decode b_Mo_hasOpen 32 = .ok (.goto (-28), 3) := by decide +kernel
theorem d_Mo_hasOpen_35 : decode b_Mo_hasOpen 35 = .ok (.iload_n 1, 1) := by decide +kernel
theorem d_Mo_hasOpen_36 : decode b_Mo_hasOpen 36 = .ok (.ireturn, 1) := by decide +kernel
theorem d_Mo_version_0 : decode b_Mo_version 0 = .ok (.aload_n 0, 1) := by decide +kernel
theorem d_Mo_version_1 : decode b_Mo_version 1 = .ok (.aload_n 0, 1) := by decide +kernel
theorem d_Mo_version_2 : decode b_Mo_version 2 = .ok (.invokevirtual 248, 3) := by decide +kernel
theorem d_Mo_version_5 : decode b_Mo_version 5 = .ok (.ifCond .eq 7, 3) := by decide +kernel
theorem d_Mo_version_8 : decode b_Mo_version 8 = .ok (.iconst 1, 1) := by decide +kernel
theorem d_Mo_version_9 : decode b_Mo_version 9 = .ok (.goto 4, 3) := by decide +kernel
theorem d_Mo_version_12 : decode b_Mo_version 12 = .ok (.iconst 0, 1) := by decide +kernel
theorem d_Mo_version_13 : decode b_Mo_version 13 = .ok (.putfield 100, 3) := by decide +kernel
theorem d_Mo_version_16 : decode b_Mo_version 16 = .ok (.aload_n 0, 1) := by decide +kernel
theorem d_Mo_version_17 : decode b_Mo_version 17 = .ok (.getfield 100, 3) := by decide +kernel
theorem d_Mo_version_20 : decode b_Mo_version 20 = .ok (.ifCond .eq 5, 3) := by decide +kernel
theorem d_Mo_version_23 : decode b_Mo_version 23 = .ok (.iconst 0, 1) := by decide +kernel
theorem d_Mo_version_24 : decode b_Mo_version 24 = .ok (.ireturn, 1) := by decide +kernel
theorem d_Mo_version_25 : decode b_Mo_version 25 = .ok (.aload_n 0, 1) := by decide +kernel
theorem d_Mo_version_26 : decode b_Mo_version 26 = .ok (.bipush 7, 2) := by decide +kernel
theorem d_Mo_version_28 : decode b_Mo_version 28 = .ok (.invokevirtual 152, 3) := by decide +kernel
theorem d_Mo_version_31 : decode b_Mo_version 31 = .ok (.ifCond .eq 9, 3) := by decide +kernel
theorem d_Mo_version_34 : decode b_Mo_version 34 = .ok (.aload_n 0, 1) := by decide +kernel
theorem d_Mo_version_35 : decode b_Mo_version 35 = .ok (.iconst 1, 1) := by decide +kernel
theorem d_Mo_version_36 : decode b_Mo_version 36 = .ok (.invokevirtual 155, 3) := by decide +kernel
theorem d_Mo_version_39 : decode b_Mo_version 39 = .ok (.ireturn, 1) := by decide +kernel
theorem d_Mo_version_40 : decode b_Mo_version 40 = .ok (.aload_n 0, 1) := by decide +kernel
theorem d_Mo_version_41 : decode b_Mo_version 41 = .ok (.iconst 0, 1) := by decide +kernel
theorem d_Mo_version_42 : decode b_Mo_version 42 = .ok (.putfield 149, 3) := by decide +kernel
theorem d_Mo_version_45 : decode b_Mo_version 45 = .ok (.aload_n 0, 1) := by decide +kernel
theorem d_Mo_version_46 : decode b_Mo_version 46 = .ok (.getfield 7, 3) := by decide +kernel
theorem d_Mo_version_49 : decode b_Mo_version 49 = .ok (.bipush 7, 2) := by decide +kernel
theorem d_Mo_version_51 : decode b_Mo_version 51 = .ok (.iaload, 1) := by decide +kernel
theorem d_Mo_version_52 : decode b_Mo_version 52 = .ok (.istore_n 1, 1) := by decide +kernel
theorem d_Mo_version_53 : decode b_Mo_version 53 = .ok (.aload_n 0, 1) := by decide +kernel
theorem d_Mo_version_54 : decode b_Mo_version 54 = .ok (.getfield 7, 3) := by decide +kernel
theorem d_Mo_version_57 : decode b_Mo_version 57 = .ok (.bipush 7, 2) := by decide +kernel
theorem d_Mo_version_59 : decode b_Mo_version 59 = .ok (.dup2, 1) := by decide +kernel
theorem d_Mo_version_60 : decode b_Mo_version 60 = .ok (.iaload, 1) := by decide +kernel
theorem d_Mo_version_61 : decode b_Mo_version 61 = .ok (.iconst 1, 1) := by decide +kernel
theorem d_Mo_version_62 : decode b_Mo_version 62 = .ok (.iadd, 1) := by decide +kernel
theorem d_Mo_version_63 : decode b_Mo_version 63 = .ok (.iastore, 1) := by decide +kernel
theorem d_Mo_version_64 : decode b_Mo_version 64 = .ok (.iconst 0, 1) := by decide +kernel
theorem d_Mo_version_65 : decode b_Mo_version 65 = .ok (.istore_n 2, 1) := by decide +kernel
theorem d_Mo_version_66 : decode b_Mo_version 66 = .ok (.iload_n 2, 1) := by decide +kernel
theorem d_Mo_version_67 : decode b_Mo_version 67 = .ok (.bipush 8, 2) := by decide +kernel
theorem d_Mo_version_69 : decode b_Mo_version 69 = .ok (.if_icmp .ge 26, 3) := by decide +kernel
theorem d_Mo_version_72 : decode b_Mo_version 72 = .ok (.aload_n 0, 1) := by decide +kernel
theorem d_Mo_version_73 : decode b_Mo_version 73 = .ok (.getfield 72, 3) := by decide +kernel
theorem d_Mo_version_76 : decode b_Mo_version 76 = .ok (.bipush 8, 2) := by decide +kernel
theorem d_Mo_version_78 : decode b_Mo_version 78 = .ok (.iload_n 1, 1) := by decide +kernel
theorem d_Mo_version_79 : decode b_Mo_version 79 = .ok (.imul, 1) := by decide +kernel
theorem d_Mo_version_80 : decode b_Mo_version 80 = .ok (.iload_n 2, 1) := by decide +kernel
theorem d_Mo_version_81 : decode b_Mo_version 81 = .ok (.iadd, 1) := by decide +kernel
theorem d_Mo_version_82 : decode b_Mo_version 82 = .ok (.aload_n 0, 1) := by decide +kernel
theorem d_Mo_version_83 : decode b_Mo_version 83 = .ok (.getfield 7, 3) := by decide +kernel
theorem d_Mo_version_86 : decode b_Mo_version 86 = .ok (.iload_n 2, 1) := by decide +kernel
theorem d_Mo_version_87 : decode b_Mo_version 87 = .ok (.iaload, 1) := by decide +kernel
theorem d_Mo_version_88 : decode b_Mo_version 88 = .ok (.iastore, 1) := by decide +kernel
theorem d_Mo_version_89 : decode b_Mo_version 89 = .ok (.iinc 2 1, 3) := by decide +kernel
theorem d_Mo_version_92 : decode b_Mo_version 92 = .ok (.goto (-26), 3) := by decide +kernel
theorem d_Mo_version_95 : decode b_Mo_version 95 = .ok (.iconst 0, 1) := by decide +kernel
theorem d_Mo_version_96 : decode b_Mo_version 96 = .ok (.istore_n 2, 1) := by decide +kernel
theorem d_Mo_version_97 : decode b_Mo_version 97 = .ok (.iload_n 2, 1) := by decide +kernel
theorem d_Mo_version_98 : decode b_Mo_version 98 = .ok (.sipush 150, 3) := by decide +kernel
theorem d_Mo_version_101 : decode b_Mo_version 101 = .ok (.if_icmp .ge 63, 3) := by decide +kernel
theorem d_Mo_version_104 : decode b_Mo_version 104 = .ok (.aload_n 0, 1) := by decide +kernel
theorem d_Mo_version_105 : decode b_Mo_version 105 = .ok (.getfield 75, 3) := by decide +kernel
theorem d_Mo_version_108 : decode b_Mo_version 108 = .ok (.sipush 150, 3) := by decide +kernel
theorem d_Mo_version_111 : decode b_Mo_version 111 = .ok (.iload_n 1, 1) := by decide +kernel
theorem d_Mo_version_112 : decode b_Mo_version 112 = .ok (.imul, 1) := by decide +kernel
theorem d_Mo_version_113 : decode b_Mo_version 113 = .ok (.iload_n 2, 1) := by decide +kernel
theorem d_Mo_version_114 : decode b_Mo_version 114 = .ok (.iadd, 1) := by decide +kernel
theorem d_Mo_version_115 : decode b_Mo_version 115 = .ok (.aload_n 0, 1) := by decide +kernel
theorem d_Mo_version_116 : decode b_Mo_version 116 = .ok (.getfield 13, 3) := by decide +kernel
theorem d_Mo_version_119 : decode b_Mo_version 119 = .ok (.iload_n 2, 1) := by decide +kernel
theorem d_Mo_version_120 : decode b_Mo_version 120 = .ok (.baload, 1) := by decide +kernel
theorem d_Mo_version_121 : decode b_Mo_version 121 = .ok (.bastore, 1) := by decide +kernel
theorem d_Mo_version_122 : decode b_Mo_version 122 = .ok (.aload_n 0, 1) := by decide +kernel
theorem d_Mo_version_123 : decode b_Mo_version 123 = .ok (.getfield 78, 3) := by decide +kernel
theorem d_Mo_version_126 : decode b_Mo_version 126 = .ok (.sipush 150, 3) := by decide +kernel
theorem d_Mo_version_129 : decode b_Mo_version 129 = .ok (.iload_n 1, 1) := by decide +kernel
theorem d_Mo_version_130 : decode b_Mo_version 130 = .ok (.imul, 1) := by decide +kernel
theorem d_Mo_version_131 : decode b_Mo_version 131 = .ok (.iload_n 2, 1) := by decide +kernel
theorem d_Mo_version_132 : decode b_Mo_version 132 = .ok (.iadd, 1) := by decide +kernel
theorem d_Mo_version_133 : decode b_Mo_version 133 = .ok (.aload_n 0, 1) := by decide +kernel
theorem d_Mo_version_134 : decode b_Mo_version 134 = .ok (.getfield 17, 3) := by decide +kernel
theorem d_Mo_version_137 : decode b_Mo_version 137 = .ok (.iload_n 2, 1) := by decide +kernel
theorem d_Mo_version_138 : decode b_Mo_version 138 = .ok (.iaload, 1) := by decide +kernel
theorem d_Mo_version_139 : decode b_Mo_version 139 = .ok (.iastore, 1) := by decide +kernel
theorem d_Mo_version_140 : decode b_Mo_version 140 = .ok (.aload_n 0, 1) := by decide +kernel
theorem d_Mo_version_141 : decode b_Mo_version 141 = .ok (.getfield 81, 3) := by decide +kernel
theorem d_Mo_version_144 : decode b_Mo_version 144 = .ok (.sipush 150, 3) := by decide +kernel
theorem d_Mo_version_147 : decode b_Mo_version 147 = .ok (.iload_n 1, 1) := by decide +kernel
theorem d_Mo_version_148 : decode b_Mo_version 148 = .ok (.imul, 1) := by decide +kernel
theorem d_Mo_version_149 : decode b_Mo_version 149 = .ok (.iload_n 2, 1) := by decide +kernel
theorem d_Mo_version_150 : decode b_Mo_version 150 = .ok (.iadd, 1) := by decide +kernel
theorem d_Mo_version_151 : decode b_Mo_version 151 = .ok (.aload_n 0, 1) := by decide +kernel
theorem d_Mo_version_152 : decode b_Mo_version 152 = .ok (.getfield 20, 3) := by decide +kernel
theorem d_Mo_version_155 : decode b_Mo_version 155 = .ok (.iload_n 2, 1) := by decide +kernel
theorem d_Mo_version_156 : decode b_Mo_version 156 = .ok (.iaload, 1) := by decide +kernel
theorem d_Mo_version_157 : decode b_Mo_version 157 = .ok (.iastore, 1) := by decide +kernel
theorem d_Mo_version_158 : decode b_Mo_version 158 = .ok (.iinc 2 1, 3) := by decide +kernel
theorem d_Mo_version_161 : decode b_Mo_version 161 = .ok (.goto (-64), 3) := by decide +kernel
theorem d_Mo_version_164 : decode b_Mo_version 164 = .ok (.sipush 7000, 3) := by decide +kernel
theorem d_Mo_version_167 : decode b_Mo_version 167 = .ok (.iload_n 1, 1) := by decide +kernel
theorem d_Mo_version_168 : decode b_Mo_version 168 = .ok (.iadd, 1) := by decide +kernel
theorem d_Mo_version_169 : decode b_Mo_version 169 = .ok (.ireturn, 1) := by decide +kernel
theorem d_Mo_back_0 : decode b_Mo_back 0 = .ok (.aload_n 0, 1) := by decide +kernel
theorem d_Mo_back_1 : decode b_Mo_back 1 = .ok (.iload_n 1, 1) := by decide +kernel
theorem d_Mo_back_2 : decode b_Mo_back 2 = .ok (.bipush 7, 2) := by decide +kernel
theorem d_Mo_back_4 : decode b_Mo_back 4 = .ok (.invokevirtual 176, 3) := by decide +kernel
theorem d_Mo_back_7 : decode b_Mo_back 7 = .ok (.istore_n 2, 1) := by decide +kernel
theorem d_Mo_back_8 : decode b_Mo_back 8 = .ok (.aload_n 0, 1) := by decide +kernel
theorem d_Mo_back_9 : decode b_Mo_back 9 = .ok (.iload_n 2, 1) := by decide +kernel
theorem d_Mo_back_10 : decode b_Mo_back 10 = .ok (.ifCond .eq 7, 3) := by decide +kernel
theorem d_Mo_back_13 : decode b_Mo_back 13 = .ok (.iload_n 2, 1) := by decide +kernel
theorem d_Mo_back_14 : decode b_Mo_back 14 = .ok (.goto 15, 3) := by decide +kernel
theorem d_Mo_back_17 : decode b_Mo_back 17 = .ok (.aload_n 0, 1) := by decide +kernel
theorem d_Mo_back_18 : decode b_Mo_back 18 = .ok (.invokevirtual 248, 3) := by decide +kernel
theorem d_Mo_back_21 : decode b_Mo_back 21 = .ok (.ifCond .eq 7, 3) := by decide +kernel
theorem d_Mo_back_24 : decode b_Mo_back 24 = .ok (.iconst 3, 1) := by decide +kernel
theorem d_Mo_back_25 : decode b_Mo_back 25 = .ok (.goto 4, 3) := by decide +kernel
theorem d_Mo_back_28 : decode b_Mo_back 28 = .ok (.iconst 0, 1) := by decide +kernel
theorem d_Mo_back_29 : decode b_Mo_back 29 = .ok (.putfield 100, 3) := by decide +kernel
theorem d_Mo_back_32 : decode b_Mo_back 32 = .ok (.aload_n 0, 1) := by decide +kernel
theorem d_Mo_back_33 : decode b_Mo_back 33 = .ok (.getfield 100, 3) := by decide +kernel
theorem d_Mo_back_36 : decode b_Mo_back 36 = .ok (.ifCond .eq 5, 3) := by decide +kernel
theorem d_Mo_back_39 : decode b_Mo_back 39 = .ok (.iconst 0, 1) := by decide +kernel
theorem d_Mo_back_40 : decode b_Mo_back 40 = .ok (.ireturn, 1) := by decide +kernel
theorem d_Mo_back_41 : decode b_Mo_back 41 = .ok (.iload_n 1, 1) := by decide +kernel
theorem d_Mo_back_42 : decode b_Mo_back 42 = .ok (.sipush 1000, 3) := by decide +kernel
theorem d_Mo_back_45 : decode b_Mo_back 45 = .ok (.irem, 1) := by decide +kernel
theorem d_Mo_back_46 : decode b_Mo_back 46 = .ok (.istore_n 3, 1) := by decide +kernel
theorem d_Mo_back_47 : decode b_Mo_back 47 = .ok (.iconst 0, 1) := by decide +kernel
theorem d_Mo_back_48 : decode b_Mo_back 48 = .ok (.istore 4, 2) := by decide +kernel
theorem d_Mo_back_50 : decode b_Mo_back 50 = .ok (.iconst 0, 1) := by decide +kernel
theorem d_Mo_back_51 : decode b_Mo_back 51 = .ok (.istore 5, 2) := by decide +kernel
theorem d_Mo_back_53 : decode b_Mo_back 53 = .ok (.iload 5, 2) := by decide +kernel
theorem d_Mo_back_55 : decode b_Mo_back 55 = .ok (.sipush 150, 3) := by decide +kernel
theorem d_Mo_back_58 : decode b_Mo_back 58 = .ok (.if_icmp .ge 231, 3) := by decide +kernel
theorem d_Mo_back_61 : decode b_Mo_back 61 = .ok (.sipush 150, 3) := by decide +kernel
theorem d_Mo_back_64 : decode b_Mo_back 64 = .ok (.iload_n 3, 1) := by decide +kernel
theorem d_Mo_back_65 : decode b_Mo_back 65 = .ok (.imul, 1) := by decide +kernel
theorem d_Mo_back_66 : decode b_Mo_back 66 = .ok (.iload 5, 2) := by decide +kernel
theorem d_Mo_back_68 : decode b_Mo_back 68 = .ok (.iadd, 1) := by decide +kernel
theorem d_Mo_back_69 : decode b_Mo_back 69 = .ok (.istore 6, 2) := by decide +kernel
theorem d_Mo_back_71 : decode b_Mo_back 71 = .ok (.iload 5, 2) := by decide +kernel
theorem d_Mo_back_73 : decode b_Mo_back 73 = .ok (.iload 5, 2) := by decide +kernel
theorem d_Mo_back_75 : decode b_Mo_back 75 = .ok (.invokestatic 103, 3) := by decide +kernel
theorem d_Mo_back_78 : decode b_Mo_back 78 = .ok (.invokestatic 107, 3) := by decide +kernel
theorem d_Mo_back_81 : decode b_Mo_back 81 = .ok (.isub, 1) := by decide +kernel
theorem d_Mo_back_82 : decode b_Mo_back 82 = .ok (.aload_n 0, 1) := by decide +kernel
theorem d_Mo_back_83 : decode b_Mo_back 83 = .ok (.getfield 72, 3) := by decide +kernel
theorem d_Mo_back_86 : decode b_Mo_back 86 = .ok (.bipush 8, 2) := by decide +kernel
theorem d_Mo_back_88 : decode b_Mo_back 88 = .ok (.iload_n 3, 1) := by decide +kernel
theorem d_Mo_back_89 : decode b_Mo_back 89 = .ok (.imul, 1) := by decide +kernel
theorem d_Mo_back_90 : decode b_Mo_back 90 = .ok (.iload 5, 2) := by decide +kernel
theorem d_Mo_back_92 : decode b_Mo_back 92 = .ok (.invokestatic 103, 3) := by decide +kernel
theorem d_Mo_back_95 : decode b_Mo_back 95 = .ok (.iadd, 1) := by decide +kernel
theorem d_Mo_back_96 : decode b_Mo_back 96 = .ok (.iaload, 1) := by decide +kernel
theorem d_Mo_back_97 : decode b_Mo_back 97 = .ok (.if_icmp .ge 7, 3) := by decide +kernel
theorem d_Mo_back_100 : decode b_Mo_back 100 = .ok (.iconst 1, 1) := by decide +kernel
theorem d_Mo_back_101 : decode b_Mo_back 101 = .ok (.goto 4, 3) := by decide +kernel
theorem d_Mo_back_104 : decode b_Mo_back 104 = .ok (.iconst 0, 1) := by decide +kernel
theorem d_Mo_back_105 : decode b_Mo_back 105 = .ok (.istore 7, 2) := by decide +kernel
theorem d_Mo_back_107 : decode b_Mo_back 107 = .ok (.aload_n 0, 1) := by decide +kernel
theorem d_Mo_back_108 : decode b_Mo_back 108 = .ok (.getfield 13, 3) := by decide +kernel
theorem d_Mo_back_111 : decode b_Mo_back 111 = .ok (.iload 5, 2) := by decide +kernel
theorem d_Mo_back_113 : decode b_Mo_back 113 = .ok (.baload, 1) := by decide +kernel
theorem d_Mo_back_114 : decode b_Mo_back 114 = .ok (.iload 7, 2) := by decide +kernel
theorem d_Mo_back_116 : decode b_Mo_back 116 = .ok (.ifCond .eq 17, 3) := by decide +kernel
theorem d_Mo_back_119 : decode b_Mo_back 119 = .ok (.aload_n 0, 1) := by decide +kernel
theorem d_Mo_back_120 : decode b_Mo_back 120 = .ok (.getfield 75, 3) := by decide +kernel
theorem d_Mo_back_123 : decode b_Mo_back 123 = .ok (.iload 6, 2) := by decide +kernel
theorem d_Mo_back_125 : decode b_Mo_back 125 = .ok (.baload, 1) := by decide +kernel
theorem d_Mo_back_126 : decode b_Mo_back 126 = .ok (.ifCond .eq 7, 3) := by decide +kernel
theorem d_Mo_back_129 : decode b_Mo_back 129 = .ok (.iconst 1, 1) := by decide +kernel
theorem d_Mo_back_130 : decode b_Mo_back 130 = .ok (.goto 4, 3) := by decide +kernel
theorem d_Mo_back_133 : decode b_Mo_back 133 = .ok (.iconst 0, 1) := by decide +kernel
theorem d_Mo_back_134 : decode b_Mo_back 134 = .ok (.if_icmp .ne 42, 3) := by decide +kernel
theorem d_Mo_back_137 : decode b_Mo_back 137 = .ok (.iload 7, 2) := by decide +kernel
theorem d_Mo_back_139 : decode b_Mo_back 139 = .ok (.ifCond .eq 41, 3) := by decide +kernel
theorem d_Mo_back_142 : decode b_Mo_back 142 = .ok (.aload_n 0, 1) := by decide +kernel
theorem d_Mo_back_143 : decode b_Mo_back 143 = .ok (.getfield 17, 3) := by decide +kernel
theorem d_Mo_back_146 : decode b_Mo_back 146 = .ok (.iload 5, 2) := by decide +kernel
theorem d_Mo_back_148 : decode b_Mo_back 148 = .ok (.iaload, 1) := by decide +kernel
theorem d_Mo_back_149 : decode b_Mo_back 149 = .ok (.aload_n 0, 1) := by decide +kernel
theorem d_Mo_back_150 : decode b_Mo_back 150 = .ok (.getfield 78, 3) := by decide +kernel
theorem d_Mo_back_153 : decode b_Mo_back 153 = .ok (.iload 6, 2) := by decide +kernel
theorem d_Mo_back_155 : decode b_Mo_back 155 = .ok (.iaload, 1) := by decide +kernel
theorem d_Mo_back_156 : decode b_Mo_back 156 = .ok (.if_icmp .ne 20, 3) := by decide +kernel
theorem d_Mo_back_159 : decode b_Mo_back 159 = .ok (.aload_n 0, 1) := by decide +kernel
theorem d_Mo_back_160 : decode b_Mo_back 160 = .ok (.getfield 20, 3) := by decide +kernel
theorem d_Mo_back_163 : decode b_Mo_back 163 = .ok (.iload 5, 2) := by decide +kernel
theorem d_Mo_back_165 : decode b_Mo_back 165 = .ok (.iaload, 1) := by decide +kernel
theorem d_Mo_back_166 : decode b_Mo_back 166 = .ok (.aload_n 0, 1) := by decide +kernel
theorem d_Mo_back_167 : decode b_Mo_back 167 = .ok (.getfield 81, 3) := by decide +kernel
theorem d_Mo_back_170 : decode b_Mo_back 170 = .ok (.iload 6, 2) := by decide +kernel
theorem d_Mo_back_172 : decode b_Mo_back 172 = .ok (.iaload, 1) := by decide +kernel
theorem d_Mo_back_173 : decode b_Mo_back 173 = .ok (.if_icmp .eq 7, 3) := by decide +kernel
theorem d_Mo_back_176 : decode b_Mo_back 176 = .ok (.iconst 1, 1) := by decide +kernel
theorem d_Mo_back_177 : decode b_Mo_back 177 = .ok (.goto 4, 3) := by decide +kernel
theorem d_Mo_back_180 : decode b_Mo_back 180 = .ok (.iconst 0, 1) := by decide +kernel
theorem d_Mo_back_181 : decode b_Mo_back 181 = .ok (.istore 8, 2) := by decide +kernel
theorem d_Mo_back_183 : decode b_Mo_back 183 = .ok (.iload 4, 2) := by decide +kernel
theorem d_Mo_back_185 : decode b_Mo_back 185 = .ok (.iload 8, 2) := by decide +kernel
theorem d_Mo_back_187 : decode b_Mo_back 187 = .ok (.ifCond .eq 7, 3) := by decide +kernel
theorem d_Mo_back_190 : decode b_Mo_back 190 = .ok (.iconst 1, 1) := by decide +kernel
theorem d_Mo_back_191 : decode b_Mo_back 191 = .ok (.goto 4, 3) := by decide +kernel
theorem d_Mo_back_194 : decode b_Mo_back 194 = .ok (.iconst 0, 1) := by decide +kernel
theorem d_Mo_back_195 : decode b_Mo_back 195 = .ok (.iadd, 1) := by decide +kernel
theorem d_Mo_back_196 : decode b_Mo_back 196 = .ok (.istore 4, 2) := by decide +kernel
theorem d_Mo_back_198 : decode b_Mo_back 198 = .ok (.aload_n 0, 1) := by decide +kernel
theorem d_Mo_back_199 : decode b_Mo_back 199 = .ok (.getfield 13, 3) := by decide +kernel
theorem d_Mo_back_202 : decode b_Mo_back 202 = .ok (.iload 5, 2) := by decide +kernel
theorem d_Mo_back_204 : decode b_Mo_back 204 = .ok (.iload 7, 2) := by decide +kernel
theorem d_Mo_back_206 : decode b_Mo_back 206 = .ok (.ifCond .eq 17, 3) := by decide +kernel
theorem d_Mo_back_209 : decode b_Mo_back 209 = .ok (.aload_n 0, 1) := by decide +kernel
theorem d_Mo_back_210 : decode b_Mo_back 210 = .ok (.getfield 75, 3) := by decide +kernel
theorem d_Mo_back_213 : decode b_Mo_back 213 = .ok (.iload 6, 2) := by decide +kernel
theorem d_Mo_back_215 : decode b_Mo_back 215 = .ok (.baload, 1) := by decide +kernel
theorem d_Mo_back_216 : decode b_Mo_back 216 = .ok (.ifCond .eq 7, 3) := by decide +kernel
theorem d_Mo_back_219 : decode b_Mo_back 219 = .ok (.iconst 1, 1) := by decide +kernel
theorem d_Mo_back_220 : decode b_Mo_back 220 = .ok (.goto 4, 3) := by decide +kernel
theorem d_Mo_back_223 : decode b_Mo_back 223 = .ok (.iconst 0, 1) := by decide +kernel
theorem d_Mo_back_224 : decode b_Mo_back 224 = .ok (.bastore, 1) := by decide +kernel
theorem d_Mo_back_225 : decode b_Mo_back 225 = .ok (.aload_n 0, 1) := by decide +kernel
theorem d_Mo_back_226 : decode b_Mo_back 226 = .ok (.getfield 17, 3) := by decide +kernel
theorem d_Mo_back_229 : decode b_Mo_back 229 = .ok (.iload 5, 2) := by decide +kernel
theorem d_Mo_back_231 : decode b_Mo_back 231 = .ok (.iload 7, 2) := by decide +kernel
theorem d_Mo_back_233 : decode b_Mo_back 233 = .ok (.ifCond .eq 13, 3) := by decide +kernel
theorem d_Mo_back_236 : decode b_Mo_back 236 = .ok (.aload_n 0, 1) := by decide +kernel
theorem d_Mo_back_237 : decode b_Mo_back 237 = .ok (.getfield 78, 3) := by decide +kernel
theorem d_Mo_back_240 : decode b_Mo_back 240 = .ok (.iload 6, 2) := by decide +kernel
theorem d_Mo_back_242 : decode b_Mo_back 242 = .ok (.iaload, 1) := by decide +kernel
theorem d_Mo_back_243 : decode b_Mo_back 243 = .ok (.goto 10, 3) := by decide +kernel
theorem d_Mo_back_246 : decode b_Mo_back 246 = .ok (.aload_n 0, 1) := by decide +kernel
theorem d_Mo_back_247 : decode b_Mo_back 247 = .ok (.getfield 17, 3) := by decide +kernel
theorem d_Mo_back_250 : decode b_Mo_back 250 = .ok (.iload 5, 2) := by decide +kernel
theorem d_Mo_back_252 : decode b_Mo_back 252 = .ok (.iaload, 1) := by decide +kernel
theorem d_Mo_back_253 : decode b_Mo_back 253 = .ok (.iastore, 1) := by decide +kernel
theorem d_Mo_back_254 : decode b_Mo_back 254 = .ok (.aload_n 0, 1) := by decide +kernel
theorem d_Mo_back_255 : decode b_Mo_back 255 = .ok (.getfield 20, 3) := by decide +kernel
theorem d_Mo_back_258 : decode b_Mo_back 258 = .ok (.iload 5, 2) := by decide +kernel
theorem d_Mo_back_260 : decode b_Mo_back 260 = .ok (.iload 7, 2) := by decide +kernel
theorem d_Mo_back_262 : decode b_Mo_back 262 = .ok (.ifCond .eq 13, 3) := by decide +kernel
theorem d_Mo_back_265 : decode b_Mo_back 265 = .ok (.aload_n 0, 1) := by decide +kernel
theorem d_Mo_back_266 : decode b_Mo_back 266 = .ok (.getfield 81, 3) := by decide +kernel
theorem d_Mo_back_269 : decode b_Mo_back 269 = .ok (.iload 6, 2) := by decide +kernel
theorem d_Mo_back_271 : decode b_Mo_back 271 = .ok (.iaload, 1) := by decide +kernel
theorem d_Mo_back_272 : decode b_Mo_back 272 = .ok (.goto 10, 3) := by decide +kernel
theorem d_Mo_back_275 : decode b_Mo_back 275 = .ok (.aload_n 0, 1) := by decide +kernel
theorem d_Mo_back_276 : decode b_Mo_back 276 = .ok (.getfield 20, 3) := by decide +kernel
theorem d_Mo_back_279 : decode b_Mo_back 279 = .ok (.iload 5, 2) := by decide +kernel
theorem d_Mo_back_281 : decode b_Mo_back 281 = .ok (.iaload, 1) := by decide +kernel
theorem d_Mo_back_282 : decode b_Mo_back 282 = .ok (.iastore, 1) := by decide +kernel
theorem d_Mo_back_283 : decode b_Mo_back 283 = .ok (.iinc 5 1, 3) := by decide +kernel
theorem d_Mo_back_286 : decode b_Mo_back 286 = .ok (.goto (-233), 3) := by decide +kernel
theorem d_Mo_back_289 : decode b_Mo_back 289 = .ok (.iload 4, 2) := by decide +kernel
theorem d_Mo_back_291 : decode b_Mo_back 291 = .ok (.ireturn, 1) := by decide +kernel
