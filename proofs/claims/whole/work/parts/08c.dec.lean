theorem dX10_addRow_0 : decode cX10_addRow 0 = .ok (.aload_n 0, 1) := by decide +kernel
theorem dX10_addRow_1 : decode cX10_addRow 1 = .ok (.getfield 9, 3) := by decide +kernel
theorem dX10_addRow_4 : decode cX10_addRow 4 = .ok (.iload_n 1, 1) := by decide +kernel
theorem dX10_addRow_5 : decode cX10_addRow 5 = .ok (.baload, 1) := by decide +kernel
theorem dX10_addRow_6 : decode cX10_addRow 6 = .ok (.invokestatic 72, 3) := by decide +kernel
theorem dX10_addRow_9 : decode cX10_addRow 9 = .ok (.ifCond .ne 26, 3) := by decide +kernel
theorem dX10_addRow_12 : decode cX10_addRow 12 = .ok (.aload_n 0, 1) := by decide +kernel
theorem dX10_addRow_13 : decode cX10_addRow 13 = .ok (.iload_n 2, 1) := by decide +kernel
theorem dX10_addRow_14 : decode cX10_addRow 14 = .ok (.iload_n 1, 1) := by decide +kernel
theorem dX10_addRow_15 : decode cX10_addRow 15 = .ok (.isub, 1) := by decide +kernel
theorem dX10_addRow_16 : decode cX10_addRow 16 = .ok (.bipush 20, 2) := by decide +kernel
theorem dX10_addRow_18 : decode cX10_addRow 18 = .ok (.if_icmp .gt 7, 3) := by decide +kernel
theorem dX10_addRow_21 : decode cX10_addRow 21 = .ok (.iconst 1, 1) := by decide +kernel
theorem dX10_addRow_22 : decode cX10_addRow 22 = .ok (.goto 4, 3) := by decide +kernel
theorem dX10_addRow_25 : decode cX10_addRow 25 = .ok (.iconst 0, 1) := by decide +kernel
theorem dX10_addRow_26 : decode cX10_addRow 26 = .ok (.iload_n 1, 1) := by decide +kernel
theorem dX10_addRow_27 : decode cX10_addRow 27 = .ok (.iload_n 2, 1) := by decide +kernel
theorem dX10_addRow_28 : decode cX10_addRow 28 = .ok (.ldc2_w 75, 3) := by decide +kernel
theorem dX10_addRow_31 : decode cX10_addRow 31 = .ok (.invokevirtual 55, 3) := by decide +kernel
theorem dX10_addRow_34 : decode cX10_addRow 34 = .ok (.return_, 1) := by decide +kernel
theorem dX10_addRow_35 : decode cX10_addRow 35 = .ok (.iload_n 2, 1) := by decide +kernel
theorem dX10_addRow_36 : decode cX10_addRow 36 = .ok (.iload_n 1, 1) := by decide +kernel
theorem dX10_addRow_37 : decode cX10_addRow 37 = .ok (.isub, 1) := by decide +kernel
theorem dX10_addRow_38 : decode cX10_addRow 38 = .ok (.iconst 2, 1) := by decide +kernel
theorem dX10_addRow_39 : decode cX10_addRow 39 = .ok (.if_icmp .le 31, 3) := by decide +kernel
theorem dX10_addRow_42 : decode cX10_addRow 42 = .ok (.aload_n 0, 1) := by decide +kernel
theorem dX10_addRow_43 : decode cX10_addRow 43 = .ok (.getfield 9, 3) := by decide +kernel
theorem dX10_addRow_46 : decode cX10_addRow 46 = .ok (.iload_n 1, 1) := by decide +kernel
theorem dX10_addRow_47 : decode cX10_addRow 47 = .ok (.baload, 1) := by decide +kernel
theorem dX10_addRow_48 : decode cX10_addRow 48 = .ok (.bipush 48, 2) := by decide +kernel
theorem dX10_addRow_50 : decode cX10_addRow 50 = .ok (.if_icmp .ne 20, 3) := by decide +kernel
theorem dX10_addRow_53 : decode cX10_addRow 53 = .ok (.aload_n 0, 1) := by decide +kernel
theorem dX10_addRow_54 : decode cX10_addRow 54 = .ok (.getfield 9, 3) := by decide +kernel
theorem dX10_addRow_57 : decode cX10_addRow 57 = .ok (.iload_n 1, 1) := by decide +kernel
theorem dX10_addRow_58 : decode cX10_addRow 58 = .ok (.iconst 1, 1) := by decide +kernel
theorem dX10_addRow_59 : decode cX10_addRow 59 = .ok (.iadd, 1) := by decide +kernel
theorem dX10_addRow_60 : decode cX10_addRow 60 = .ok (.baload, 1) := by decide +kernel
theorem dX10_addRow_61 : decode cX10_addRow 61 = .ok (.bipush 120, 2) := by decide +kernel
theorem dX10_addRow_63 : decode cX10_addRow 63 = .ok (.if_icmp .ne 7, 3) := by decide +kernel
theorem dX10_addRow_66 : decode cX10_addRow 66 = .ok (.iconst 1, 1) := by decide +kernel
theorem dX10_addRow_67 : decode cX10_addRow 67 = .ok (.goto 4, 3) := by decide +kernel
theorem dX10_addRow_70 : decode cX10_addRow 70 = .ok (.iconst 0, 1) := by decide +kernel
theorem dX10_addRow_71 : decode cX10_addRow 71 = .ok (.istore_n 3, 1) := by decide +kernel
theorem dX10_addRow_72 : decode cX10_addRow 72 = .ok (.iload_n 3, 1) := by decide +kernel
theorem dX10_addRow_73 : decode cX10_addRow 73 = .ok (.ifCond .eq 18, 3) := by decide +kernel
theorem dX10_addRow_76 : decode cX10_addRow 76 = .ok (.aload_n 0, 1) := by decide +kernel
theorem dX10_addRow_77 : decode cX10_addRow 77 = .ok (.iload_n 1, 1) := by decide +kernel
theorem dX10_addRow_78 : decode cX10_addRow 78 = .ok (.iconst 2, 1) := by decide +kernel
theorem dX10_addRow_79 : decode cX10_addRow 79 = .ok (.iadd, 1) := by decide +kernel
theorem dX10_addRow_80 : decode cX10_addRow 80 = .ok (.iload_n 2, 1) := by decide +kernel
theorem dX10_addRow_81 : decode cX10_addRow 81 = .ok (.bipush 16, 2) := by decide +kernel
theorem dX10_addRow_83 : decode cX10_addRow 83 = .ok (.bipush 8, 2) := by decide +kernel
theorem dX10_addRow_85 : decode cX10_addRow 85 = .ok (.invokevirtual 77, 3) := by decide +kernel
theorem dX10_addRow_88 : decode cX10_addRow 88 = .ok (.goto 13, 3) := by decide +kernel
theorem dX10_addRow_91 : decode cX10_addRow 91 = .ok (.aload_n 0, 1) := by decide +kernel
theorem dX10_addRow_92 : decode cX10_addRow 92 = .ok (.iload_n 1, 1) := by decide +kernel
theorem dX10_addRow_93 : decode cX10_addRow 93 = .ok (.iload_n 2, 1) := by decide +kernel
theorem dX10_addRow_94 : decode cX10_addRow 94 = .ok (.bipush 10, 2) := by decide +kernel
theorem dX10_addRow_96 : decode cX10_addRow 96 = .ok (.bipush 10, 2) := by decide +kernel
theorem dX10_addRow_98 : decode cX10_addRow 98 = .ok (.invokevirtual 77, 3) := by decide +kernel
theorem dX10_addRow_101 : decode cX10_addRow 101 = .ok (.lstore 4, 2) := by decide +kernel
theorem dX10_addRow_103 : decode cX10_addRow 103 = .ok (.aload_n 0, 1) := by decide +kernel
theorem dX10_addRow_104 : decode cX10_addRow 104 = .ok (.lload 4, 2) := by decide +kernel
theorem dX10_addRow_106 : decode cX10_addRow 106 = .ok (.lconst 0, 1) := by decide +kernel
theorem dX10_addRow_107 : decode cX10_addRow 107 = .ok (.lcmp, 1) := by decide +kernel
theorem dX10_addRow_108 : decode cX10_addRow 108 = .ok (.ifCond .ge 7, 3) := by decide +kernel
theorem dX10_addRow_111 : decode cX10_addRow 111 = .ok (.iconst 0, 1) := by decide +kernel
theorem dX10_addRow_112 : decode cX10_addRow 112 = .ok (.goto 4, 3) := by decide +kernel
theorem dX10_addRow_115 : decode cX10_addRow 115 = .ok (.iconst 2, 1) := by decide +kernel
theorem dX10_addRow_116 : decode cX10_addRow 116 = .ok (.iload_n 1, 1) := by decide +kernel
theorem dX10_addRow_117 : decode cX10_addRow 117 = .ok (.iload_n 2, 1) := by decide +kernel
theorem dX10_addRow_118 : decode cX10_addRow 118 = .ok (.lload 4, 2) := by decide +kernel
theorem dX10_addRow_120 : decode cX10_addRow 120 = .ok (.invokevirtual 55, 3) := by decide +kernel
theorem dX10_addRow_123 : decode cX10_addRow 123 = .ok (.return_, 1) := by decide +kernel
theorem dX10_commentEnd_0 : decode cX10_commentEnd 0 = .ok (.iload_n 1, 1) := by decide +kernel
theorem dX10_commentEnd_1 : decode cX10_commentEnd 1 = .ok (.istore_n 2, 1) := by decide +kernel
theorem dX10_commentEnd_2 : decode cX10_commentEnd 2 = .ok (.iload_n 2, 1) := by decide +kernel
theorem dX10_commentEnd_3 : decode cX10_commentEnd 3 = .ok (.aload_n 0, 1) := by decide +kernel
theorem dX10_commentEnd_4 : decode cX10_commentEnd 4 = .ok (.getfield 29, 3) := by decide +kernel
theorem dX10_commentEnd_7 : decode cX10_commentEnd 7 = .ok (.if_icmp .ge 20, 3) := by decide +kernel
theorem dX10_commentEnd_10 : decode cX10_commentEnd 10 = .ok (.aload_n 0, 1) := by decide +kernel
theorem dX10_commentEnd_11 : decode cX10_commentEnd 11 = .ok (.getfield 9, 3) := by decide +kernel
theorem dX10_commentEnd_14 : decode cX10_commentEnd 14 = .ok (.iload_n 2, 1) := by decide +kernel
theorem dX10_commentEnd_15 : decode cX10_commentEnd 15 = .ok (.baload, 1) := by decide +kernel
theorem dX10_commentEnd_16 : decode cX10_commentEnd 16 = .ok (.bipush 10, 2) := by decide +kernel
theorem dX10_commentEnd_18 : decode cX10_commentEnd 18 = .ok (.if_icmp .eq 9, 3) := by decide +kernel
theorem dX10_commentEnd_21 : decode cX10_commentEnd 21 = .ok (.iinc 2 1, 3) := by decide +kernel
theorem dX10_commentEnd_24 : decode cX10_commentEnd 24 = .ok (.goto (-22), 3) := by decide +kernel
theorem dX10_commentEnd_27 : decode cX10_commentEnd 27 = .ok (.iload_n 2, 1) := by decide +kernel
theorem dX10_commentEnd_28 : decode cX10_commentEnd 28 = .ok (.ireturn, 1) := by decide +kernel
theorem dX10_scan_0 : decode cX10_scan 0 = .ok (.aload_n 0, 1) := by decide +kernel
theorem dX10_scan_1 : decode cX10_scan 1 = .ok (.iconst 0, 1) := by decide +kernel
theorem dX10_scan_2 : decode cX10_scan 2 = .ok (.putfield 37, 3) := by decide +kernel
theorem dX10_scan_5 : decode cX10_scan 5 = .ok (.iconst 0, 1) := by decide +kernel
theorem dX10_scan_6 : decode cX10_scan 6 = .ok (.istore_n 2, 1) := by decide +kernel
theorem dX10_scan_7 : decode cX10_scan 7 = .ok (.iload_n 2, 1) := by decide +kernel
theorem dX10_scan_8 : decode cX10_scan 8 = .ok (.aload_n 0, 1) := by decide +kernel
theorem dX10_scan_9 : decode cX10_scan 9 = .ok (.getfield 29, 3) := by decide +kernel
theorem dX10_scan_12 : decode cX10_scan 12 = .ok (.if_icmp .ge 124, 3) := by decide +kernel
theorem dX10_scan_15 : decode cX10_scan 15 = .ok (.aload_n 0, 1) := by decide +kernel
theorem dX10_scan_16 : decode cX10_scan 16 = .ok (.getfield 9, 3) := by decide +kernel
theorem dX10_scan_19 : decode cX10_scan 19 = .ok (.iload_n 2, 1) := by decide +kernel
theorem dX10_scan_20 : decode cX10_scan 20 = .ok (.baload, 1) := by decide +kernel
theorem dX10_scan_21 : decode cX10_scan 21 = .ok (.istore_n 3, 1) := by decide +kernel
theorem dX10_scan_22 : decode cX10_scan 22 = .ok (.iload_n 2, 1) := by decide +kernel
theorem dX10_scan_23 : decode cX10_scan 23 = .ok (.iconst 1, 1) := by decide +kernel
theorem dX10_scan_24 : decode cX10_scan 24 = .ok (.iadd, 1) := by decide +kernel
theorem dX10_scan_25 : decode cX10_scan 25 = .ok (.istore 4, 2) := by decide +kernel
theorem dX10_scan_27 : decode cX10_scan 27 = .ok (.iload_n 3, 1) := by decide +kernel
theorem dX10_scan_28 : decode cX10_scan 28 = .ok (.bipush 35, 2) := by decide +kernel
theorem dX10_scan_30 : decode cX10_scan 30 = .ok (.if_icmp .ne 13, 3) := by decide +kernel
theorem dX10_scan_33 : decode cX10_scan 33 = .ok (.aload_n 0, 1) := by decide +kernel
theorem dX10_scan_34 : decode cX10_scan 34 = .ok (.iload_n 2, 1) := by decide +kernel
theorem dX10_scan_35 : decode cX10_scan 35 = .ok (.invokevirtual 40, 3) := by decide +kernel
theorem dX10_scan_38 : decode cX10_scan 38 = .ok (.istore 4, 2) := by decide +kernel
theorem dX10_scan_40 : decode cX10_scan 40 = .ok (.goto 84, 3) := by decide +kernel
theorem dX10_scan_43 : decode cX10_scan 43 = .ok (.iload_n 3, 1) := by decide +kernel
theorem dX10_scan_44 : decode cX10_scan 44 = .ok (.invokestatic 44, 3) := by decide +kernel
theorem dX10_scan_47 : decode cX10_scan 47 = .ok (.ifCond .eq 20, 3) := by decide +kernel
theorem dX10_scan_50 : decode cX10_scan 50 = .ok (.aload_n 0, 1) := by decide +kernel
theorem dX10_scan_51 : decode cX10_scan 51 = .ok (.iload_n 2, 1) := by decide +kernel
theorem dX10_scan_52 : decode cX10_scan 52 = .ok (.invokevirtual 48, 3) := by decide +kernel
theorem dX10_scan_55 : decode cX10_scan 55 = .ok (.istore 4, 2) := by decide +kernel
theorem dX10_scan_57 : decode cX10_scan 57 = .ok (.aload_n 0, 1) := by decide +kernel
theorem dX10_scan_58 : decode cX10_scan 58 = .ok (.iload_n 2, 1) := by decide +kernel
theorem dX10_scan_59 : decode cX10_scan 59 = .ok (.iload 4, 2) := by decide +kernel
theorem dX10_scan_61 : decode cX10_scan 61 = .ok (.invokevirtual 51, 3) := by decide +kernel
theorem dX10_scan_64 : decode cX10_scan 64 = .ok (.goto 60, 3) := by decide +kernel
theorem dX10_scan_67 : decode cX10_scan 67 = .ok (.iload_n 3, 1) := by decide +kernel
theorem dX10_scan_68 : decode cX10_scan 68 = .ok (.bipush 10, 2) := by decide +kernel
theorem dX10_scan_70 : decode cX10_scan 70 = .ok (.if_icmp .ne 20, 3) := by decide +kernel
theorem dX10_scan_73 : decode cX10_scan 73 = .ok (.iload_n 1, 1) := by decide +kernel
theorem dX10_scan_74 : decode cX10_scan 74 = .ok (.ifCond .eq 50, 3) := by decide +kernel
theorem dX10_scan_77 : decode cX10_scan 77 = .ok (.aload_n 0, 1) := by decide +kernel
theorem dX10_scan_78 : decode cX10_scan 78 = .ok (.iconst 4, 1) := by decide +kernel
theorem dX10_scan_79 : decode cX10_scan 79 = .ok (.iload_n 2, 1) := by decide +kernel
theorem dX10_scan_80 : decode cX10_scan 80 = .ok (.iload 4, 2) := by decide +kernel
theorem dX10_scan_82 : decode cX10_scan 82 = .ok (.iload_n 3, 1) := by decide +kernel
theorem dX10_scan_83 : decode cX10_scan 83 = .ok (.i2l, 1) := by decide +kernel
theorem dX10_scan_84 : decode cX10_scan 84 = .ok (.invokevirtual 55, 3) := by decide +kernel
theorem dX10_scan_87 : decode cX10_scan 87 = .ok (.goto 37, 3) := by decide +kernel
theorem dX10_scan_90 : decode cX10_scan 90 = .ok (.iload_n 3, 1) := by decide +kernel
theorem dX10_scan_91 : decode cX10_scan 91 = .ok (.bipush 32, 2) := by decide +kernel
theorem dX10_scan_93 : decode cX10_scan 93 = .ok (.if_icmp .eq 31, 3) := by decide +kernel
theorem dX10_scan_96 : decode cX10_scan 96 = .ok (.aload_n 0, 1) := by decide +kernel
theorem dX10_scan_97 : decode cX10_scan 97 = .ok (.ldc 59, 2) := by decide +kernel
theorem dX10_scan_99 : decode cX10_scan 99 = .ok (.iload_n 3, 1) := by decide +kernel
theorem dX10_scan_100 : decode cX10_scan 100 = .ok (.sipush 255, 3) := by decide +kernel
theorem dX10_scan_103 : decode cX10_scan 103 = .ok (.iand, 1) := by decide +kernel
theorem dX10_scan_104 : decode cX10_scan 104 = .ok (.i2c, 1) := by decide +kernel
theorem dX10_scan_105 : decode cX10_scan 105 = .ok (.invokevirtual 61, 3) := by decide +kernel
theorem dX10_scan_108 : decode cX10_scan 108 = .ok (.ifCond .lt 7, 3) := by decide +kernel
theorem dX10_scan_111 : decode cX10_scan 111 = .ok (.iconst 3, 1) := by decide +kernel
theorem dX10_scan_112 : decode cX10_scan 112 = .ok (.goto 4, 3) := by decide +kernel
theorem dX10_scan_115 : decode cX10_scan 115 = .ok (.iconst 0, 1) := by decide +kernel
theorem dX10_scan_116 : decode cX10_scan 116 = .ok (.iload_n 2, 1) := by decide +kernel
theorem dX10_scan_117 : decode cX10_scan 117 = .ok (.iload 4, 2) := by decide +kernel
theorem dX10_scan_119 : decode cX10_scan 119 = .ok (.iload_n 3, 1) := by decide +kernel
theorem dX10_scan_120 : decode cX10_scan 120 = .ok (.i2l, 1) := by decide +kernel
theorem dX10_scan_121 : decode cX10_scan 121 = .ok (.invokevirtual 55, 3) := by decide +kernel
theorem dX10_scan_124 : decode cX10_scan 124 = .ok (.iload_n 2, 1) := by decide +kernel
theorem dX10_scan_125 : decode cX10_scan 125 = .ok (.iconst 1, 1) := by decide +kernel
theorem dX10_scan_126 : decode cX10_scan 126 = .ok (.iadd, 1) := by decide +kernel
theorem dX10_scan_127 : decode cX10_scan 127 = .ok (.iload 4, 2) := by decide +kernel
theorem dX10_scan_129 : decode cX10_scan 129 = .ok (.invokestatic 66, 3) := by decide +kernel
theorem dX10_scan_132 : decode cX10_scan 132 = .ok (.istore_n 2, 1) := by decide +kernel
theorem dX10_scan_133 : decode cX10_scan 133 = .ok (.goto (-126), 3) := by decide +kernel
theorem dX10_scan_136 : decode cX10_scan 136 = .ok (.iconst 0, 1) := by decide +kernel
theorem dX10_scan_137 : decode cX10_scan 137 = .ok (.istore_n 3, 1) := by decide +kernel
theorem dX10_scan_138 : decode cX10_scan 138 = .ok (.iload_n 3, 1) := by decide +kernel
theorem dX10_scan_139 : decode cX10_scan 139 = .ok (.iconst 3, 1) := by decide +kernel
theorem dX10_scan_140 : decode cX10_scan 140 = .ok (.if_icmp .ge 21, 3) := by decide +kernel
theorem dX10_scan_143 : decode cX10_scan 143 = .ok (.aload_n 0, 1) := by decide +kernel
theorem dX10_scan_144 : decode cX10_scan 144 = .ok (.getfield 15, 3) := by decide +kernel
theorem dX10_scan_147 : decode cX10_scan 147 = .ok (.aload_n 0, 1) := by decide +kernel
theorem dX10_scan_148 : decode cX10_scan 148 = .ok (.getfield 37, 3) := by decide +kernel
theorem dX10_scan_151 : decode cX10_scan 151 = .ok (.iload_n 3, 1) := by decide +kernel
theorem dX10_scan_152 : decode cX10_scan 152 = .ok (.iadd, 1) := by decide +kernel
theorem dX10_scan_153 : decode cX10_scan 153 = .ok (.iconst 5, 1) := by decide +kernel
theorem dX10_scan_154 : decode cX10_scan 154 = .ok (.bastore, 1) := by decide +kernel
theorem dX10_scan_155 : decode cX10_scan 155 = .ok (.iinc 3 1, 3) := by decide +kernel
theorem dX10_scan_158 : decode cX10_scan 158 = .ok (.goto (-20), 3) := by decide +kernel
theorem dX10_scan_161 : decode cX10_scan 161 = .ok (.aload_n 0, 1) := by decide +kernel
theorem dX10_scan_162 : decode cX10_scan 162 = .ok (.getfield 37, 3) := by decide +kernel
theorem dX10_scan_165 : decode cX10_scan 165 = .ok (.ireturn, 1) := by decide +kernel
theorem dX9_begin_0 : decode cX9_begin 0 = .ok (.aload_n 0, 1) := by decide +kernel
theorem dX9_begin_1 : decode cX9_begin 1 = .ok (.getfield 18, 3) := by decide +kernel
theorem dX9_begin_4 : decode cX9_begin 4 = .ok (.iload_n 1, 1) := by decide +kernel
theorem dX9_begin_5 : decode cX9_begin 5 = .ok (.invokevirtual 22, 3) := by decide +kernel
theorem dX9_begin_8 : decode cX9_begin 8 = .ok (.pop, 1) := by decide +kernel
theorem dX9_begin_9 : decode cX9_begin 9 = .ok (.aload_n 0, 1) := by decide +kernel
theorem dX9_begin_10 : decode cX9_begin 10 = .ok (.iconst 0, 1) := by decide +kernel
theorem dX9_begin_11 : decode cX9_begin 11 = .ok (.putfield 28, 3) := by decide +kernel
theorem dX9_begin_14 : decode cX9_begin 14 = .ok (.aload_n 0, 1) := by decide +kernel
theorem dX9_begin_15 : decode cX9_begin 15 = .ok (.iconst 0, 1) := by decide +kernel
theorem dX9_begin_16 : decode cX9_begin 16 = .ok (.putfield 9, 3) := by decide +kernel
theorem dX9_begin_19 : decode cX9_begin 19 = .ok (.aload_n 0, 1) := by decide +kernel
theorem dX9_begin_20 : decode cX9_begin 20 = .ok (.iconst (-1), 1) := by decide +kernel
theorem dX9_begin_21 : decode cX9_begin 21 = .ok (.putfield 15, 3) := by decide +kernel
theorem dX9_begin_24 : decode cX9_begin 24 = .ok (.return_, 1) := by decide +kernel
theorem dX9_failAt_0 : decode cX9_failAt 0 = .ok (.aload_n 0, 1) := by decide +kernel
theorem dX9_failAt_1 : decode cX9_failAt 1 = .ok (.iload_n 1, 1) := by decide +kernel
theorem dX9_failAt_2 : decode cX9_failAt 2 = .ok (.putfield 9, 3) := by decide +kernel
theorem dX9_failAt_5 : decode cX9_failAt 5 = .ok (.aload_n 0, 1) := by decide +kernel
theorem dX9_failAt_6 : decode cX9_failAt 6 = .ok (.iload_n 2, 1) := by decide +kernel
theorem dX9_failAt_7 : decode cX9_failAt 7 = .ok (.putfield 15, 3) := by decide +kernel
theorem dX9_failAt_10 : decode cX9_failAt 10 = .ok (.return_, 1) := by decide +kernel
theorem dX0_readWidth_0 : decode cX0_readWidth 0 = .ok (.aload_n 0, 1) := by decide +kernel
theorem dX0_readWidth_1 : decode cX0_readWidth 1 = .ok (.getfield 25, 3) := by decide +kernel
theorem dX0_readWidth_4 : decode cX0_readWidth 4 = .ok (.aload_n 0, 1) := by decide +kernel
theorem dX0_readWidth_5 : decode cX0_readWidth 5 = .ok (.getfield 15, 3) := by decide +kernel
theorem dX0_readWidth_8 : decode cX0_readWidth 8 = .ok (.getfield 58, 3) := by decide +kernel
theorem dX0_readWidth_11 : decode cX0_readWidth 11 = .ok (.ldc 61, 2) := by decide +kernel
theorem dX0_readWidth_13 : decode cX0_readWidth 13 = .ok (.invokevirtual 63, 3) := by decide +kernel
theorem dX0_readWidth_16 : decode cX0_readWidth 16 = .ok (.ifCond .ne 13, 3) := by decide +kernel
theorem dX0_readWidth_19 : decode cX0_readWidth 19 = .ok (.aload_n 0, 1) := by decide +kernel
theorem dX0_readWidth_20 : decode cX0_readWidth 20 = .ok (.getfield 15, 3) := by decide +kernel
theorem dX0_readWidth_23 : decode cX0_readWidth 23 = .ok (.iconst 1, 1) := by decide +kernel
theorem dX0_readWidth_24 : decode cX0_readWidth 24 = .ok (.invokevirtual 67, 3) := by decide +kernel
theorem dX0_readWidth_27 : decode cX0_readWidth 27 = .ok (.pop, 1) := by decide +kernel
theorem dX0_readWidth_28 : decode cX0_readWidth 28 = .ok (.return_, 1) := by decide +kernel
theorem dX0_readWidth_29 : decode cX0_readWidth 29 = .ok (.aload_n 0, 1) := by decide +kernel
theorem dX0_readWidth_30 : decode cX0_readWidth 30 = .ok (.getfield 15, 3) := by decide +kernel
theorem dX0_readWidth_33 : decode cX0_readWidth 33 = .ok (.dup, 1) := by decide +kernel
theorem dX0_readWidth_34 : decode cX0_readWidth 34 = .ok (.getfield 58, 3) := by decide +kernel
theorem dX0_readWidth_37 : decode cX0_readWidth 37 = .ok (.iconst 1, 1) := by decide +kernel
theorem dX0_readWidth_38 : decode cX0_readWidth 38 = .ok (.iadd, 1) := by decide +kernel
theorem dX0_readWidth_39 : decode cX0_readWidth 39 = .ok (.putfield 58, 3) := by decide +kernel
theorem dX0_readWidth_42 : decode cX0_readWidth 42 = .ok (.aload_n 0, 1) := by decide +kernel
theorem dX0_readWidth_43 : decode cX0_readWidth 43 = .ok (.getfield 15, 3) := by decide +kernel
theorem dX0_readWidth_46 : decode cX0_readWidth 46 = .ok (.getfield 58, 3) := by decide +kernel
theorem dX0_readWidth_49 : decode cX0_readWidth 49 = .ok (.istore_n 1, 1) := by decide +kernel
theorem dX0_readWidth_50 : decode cX0_readWidth 50 = .ok (.aload_n 0, 1) := by decide +kernel
theorem dX0_readWidth_51 : decode cX0_readWidth 51 = .ok (.getfield 15, 3) := by decide +kernel
theorem dX0_readWidth_54 : decode cX0_readWidth 54 = .ok (.lconst 0, 1) := by decide +kernel
theorem dX0_readWidth_55 : decode cX0_readWidth 55 = .ok (.ldc2_w 71, 3) := by decide +kernel
theorem dX0_readWidth_58 : decode cX0_readWidth 58 = .ok (.invokevirtual 73, 3) := by decide +kernel
theorem dX0_readWidth_61 : decode cX0_readWidth 61 = .ok (.lstore_n 2, 1) := by decide +kernel
theorem dX0_readWidth_62 : decode cX0_readWidth 62 = .ok (.lload_n 2, 1) := by decide +kernel
theorem dX0_readWidth_63 : decode cX0_readWidth 63 = .ok (.lconst 0, 1) := by decide +kernel
theorem dX0_readWidth_64 : decode cX0_readWidth 64 = .ok (.lcmp, 1) := by decide +kernel
theorem dX0_readWidth_65 : decode cX0_readWidth 65 = .ok (.ifCond .ge 4, 3) := by decide +kernel
theorem dX0_readWidth_68 : decode cX0_readWidth 68 = .ok (.return_, 1) := by decide +kernel
theorem dX0_readWidth_69 : decode cX0_readWidth 69 = .ok (.lload_n 2, 1) := by decide +kernel
theorem dX0_readWidth_70 : decode cX0_readWidth 70 = .ok (.ldc2_w 77, 3) := by decide +kernel
theorem dX0_readWidth_73 : decode cX0_readWidth 73 = .ok (.lcmp, 1) := by decide +kernel
theorem dX0_readWidth_74 : decode cX0_readWidth 74 = .ok (.ifCond .eq 29, 3) := by decide +kernel
theorem dX0_readWidth_77 : decode cX0_readWidth 77 = .ok (.lload_n 2, 1) := by decide +kernel
theorem dX0_readWidth_78 : decode cX0_readWidth 78 = .ok (.ldc2_w 79, 3) := by decide +kernel
theorem dX0_readWidth_81 : decode cX0_readWidth 81 = .ok (.lcmp, 1) := by decide +kernel
theorem dX0_readWidth_82 : decode cX0_readWidth 82 = .ok (.ifCond .eq 21, 3) := by decide +kernel
theorem dX0_readWidth_85 : decode cX0_readWidth 85 = .ok (.lload_n 2, 1) := by decide +kernel
theorem dX0_readWidth_86 : decode cX0_readWidth 86 = .ok (.ldc2_w 81, 3) := by decide +kernel
theorem dX0_readWidth_89 : decode cX0_readWidth 89 = .ok (.lcmp, 1) := by decide +kernel
theorem dX0_readWidth_90 : decode cX0_readWidth 90 = .ok (.ifCond .eq 13, 3) := by decide +kernel
theorem dX0_readWidth_93 : decode cX0_readWidth 93 = .ok (.aload_n 0, 1) := by decide +kernel
theorem dX0_readWidth_94 : decode cX0_readWidth 94 = .ok (.getfield 15, 3) := by decide +kernel
theorem dX0_readWidth_97 : decode cX0_readWidth 97 = .ok (.iconst 3, 1) := by decide +kernel
theorem dX0_readWidth_98 : decode cX0_readWidth 98 = .ok (.iload_n 1, 1) := by decide +kernel
theorem dX0_readWidth_99 : decode cX0_readWidth 99 = .ok (.invokevirtual 83, 3) := by decide +kernel
theorem dX0_readWidth_102 : decode cX0_readWidth 102 = .ok (.return_, 1) := by decide +kernel
theorem dX0_readWidth_103 : decode cX0_readWidth 103 = .ok (.aload_n 0, 1) := by decide +kernel
theorem dX0_readWidth_104 : decode cX0_readWidth 104 = .ok (.getfield 15, 3) := by decide +kernel
theorem dX0_readWidth_107 : decode cX0_readWidth 107 = .ok (.bipush 59, 2) := by decide +kernel
theorem dX0_readWidth_109 : decode cX0_readWidth 109 = .ok (.invokevirtual 87, 3) := by decide +kernel
theorem dX0_readWidth_112 : decode cX0_readWidth 112 = .ok (.ifCond .eq 12, 3) := by decide +kernel
theorem dX0_readWidth_115 : decode cX0_readWidth 115 = .ok (.aload_n 0, 1) := by decide +kernel
theorem dX0_readWidth_116 : decode cX0_readWidth 116 = .ok (.getfield 26, 3) := by decide +kernel
theorem dX0_readWidth_119 : decode cX0_readWidth 119 = .ok (.lload_n 2, 1) := by decide +kernel
theorem dX0_readWidth_120 : decode cX0_readWidth 120 = .ok (.l2i, 1) := by decide +kernel
theorem dX0_readWidth_121 : decode cX0_readWidth 121 = .ok (.putfield 91, 3) := by decide +kernel
theorem dX0_readWidth_124 : decode cX0_readWidth 124 = .ok (.return_, 1) := by decide +kernel
theorem dX0_read_0 : decode cX0_read 0 = .ok (.aload_n 0, 1) := by decide +kernel
theorem dX0_read_1 : decode cX0_read 1 = .ok (.getfield 26, 3) := by decide +kernel
theorem dX0_read_4 : decode cX0_read 4 = .ok (.invokevirtual 30, 3) := by decide +kernel
theorem dX0_read_7 : decode cX0_read 7 = .ok (.aload_n 0, 1) := by decide +kernel
theorem dX0_read_8 : decode cX0_read 8 = .ok (.getfield 15, 3) := by decide +kernel
theorem dX0_read_11 : decode cX0_read 11 = .ok (.iconst 0, 1) := by decide +kernel
theorem dX0_read_12 : decode cX0_read 12 = .ok (.invokevirtual 35, 3) := by decide +kernel
theorem dX0_read_15 : decode cX0_read 15 = .ok (.aload_n 0, 1) := by decide +kernel
theorem dX0_read_16 : decode cX0_read 16 = .ok (.invokevirtual 39, 3) := by decide +kernel
theorem dX0_read_19 : decode cX0_read 19 = .ok (.iconst 0, 1) := by decide +kernel
theorem dX0_read_20 : decode cX0_read 20 = .ok (.istore_n 1, 1) := by decide +kernel
theorem dX0_read_21 : decode cX0_read 21 = .ok (.iload_n 1, 1) := by decide +kernel
theorem dX0_read_22 : decode cX0_read 22 = .ok (.aload_n 0, 1) := by decide +kernel
theorem dX0_read_23 : decode cX0_read 23 = .ok (.getfield 25, 3) := by decide +kernel
theorem dX0_read_26 : decode cX0_read 26 = .ok (.getfield 42, 3) := by decide +kernel
theorem dX0_read_29 : decode cX0_read 29 = .ok (.if_icmp .gt 23, 3) := by decide +kernel
theorem dX0_read_32 : decode cX0_read 32 = .ok (.aload_n 0, 1) := by decide +kernel
theorem dX0_read_33 : decode cX0_read 33 = .ok (.getfield 15, 3) := by decide +kernel
theorem dX0_read_36 : decode cX0_read 36 = .ok (.invokevirtual 48, 3) := by decide +kernel
theorem dX0_read_39 : decode cX0_read 39 = .ok (.ifCond .ne 13, 3) := by decide +kernel
theorem dX0_read_42 : decode cX0_read 42 = .ok (.aload_n 0, 1) := by decide +kernel
theorem dX0_read_43 : decode cX0_read 43 = .ok (.invokevirtual 52, 3) := by decide +kernel
theorem dX0_read_46 : decode cX0_read 46 = .ok (.iinc 1 1, 3) := by decide +kernel
theorem dX0_read_49 : decode cX0_read 49 = .ok (.goto (-28), 3) := by decide +kernel
theorem dX0_read_52 : decode cX0_read 52 = .ok (.aload_n 0, 1) := by decide +kernel
theorem dX0_read_53 : decode cX0_read 53 = .ok (.getfield 15, 3) := by decide +kernel
theorem dX0_read_56 : decode cX0_read 56 = .ok (.invokevirtual 55, 3) := by decide +kernel
theorem dX0_read_59 : decode cX0_read 59 = .ok (.ifCond .eq 10, 3) := by decide +kernel
theorem dX0_read_62 : decode cX0_read 62 = .ok (.aload_n 0, 1) := by decide +kernel
theorem dX0_read_63 : decode cX0_read 63 = .ok (.getfield 26, 3) := by decide +kernel
theorem dX0_read_66 : decode cX0_read 66 = .ok (.invokevirtual 30, 3) := by decide +kernel
theorem dX0_read_69 : decode cX0_read 69 = .ok (.aload_n 0, 1) := by decide +kernel
theorem dX0_read_70 : decode cX0_read 70 = .ok (.getfield 15, 3) := by decide +kernel
theorem dX0_read_73 : decode cX0_read 73 = .ok (.invokevirtual 55, 3) := by decide +kernel
theorem dX0_read_76 : decode cX0_read 76 = .ok (.ifCond .ne 7, 3) := by decide +kernel
theorem dX0_read_79 : decode cX0_read 79 = .ok (.iconst 1, 1) := by decide +kernel
theorem dX0_read_80 : decode cX0_read 80 = .ok (.goto 4, 3) := by decide +kernel
theorem dX0_read_83 : decode cX0_read 83 = .ok (.iconst 0, 1) := by decide +kernel
theorem dX0_read_84 : decode cX0_read 84 = .ok (.ireturn, 1) := by decide +kernel
theorem dX1_encode_0 : decode cX1_encode 0 = .ok (.aload_n 0, 1) := by decide +kernel
theorem dX1_encode_1 : decode cX1_encode 1 = .ok (.getfield 31, 3) := by decide +kernel
theorem dX1_encode_4 : decode cX1_encode 4 = .ok (.iload_n 1, 1) := by decide +kernel
theorem dX1_encode_5 : decode cX1_encode 5 = .ok (.laload, 1) := by decide +kernel
theorem dX1_encode_6 : decode cX1_encode 6 = .ok (.lstore_n 3, 1) := by decide +kernel
theorem dX1_encode_7 : decode cX1_encode 7 = .ok (.iconst 0, 1) := by decide +kernel
theorem dX1_encode_8 : decode cX1_encode 8 = .ok (.istore 5, 2) := by decide +kernel
theorem dX1_encode_10 : decode cX1_encode 10 = .ok (.iload 5, 2) := by decide +kernel
theorem dX1_encode_12 : decode cX1_encode 12 = .ok (.bipush 32, 2) := by decide +kernel
theorem dX1_encode_14 : decode cX1_encode 14 = .ok (.if_icmp .ge 55, 3) := by decide +kernel
theorem dX1_encode_17 : decode cX1_encode 17 = .ok (.aload_n 0, 1) := by decide +kernel
theorem dX1_encode_18 : decode cX1_encode 18 = .ok (.getfield 34, 3) := by decide +kernel
theorem dX1_encode_21 : decode cX1_encode 21 = .ok (.iload_n 1, 1) := by decide +kernel
theorem dX1_encode_22 : decode cX1_encode 22 = .ok (.bipush 32, 2) := by decide +kernel
theorem dX1_encode_24 : decode cX1_encode 24 = .ok (.imul, 1) := by decide +kernel
theorem dX1_encode_25 : decode cX1_encode 25 = .ok (.iload 5, 2) := by decide +kernel
theorem dX1_encode_27 : decode cX1_encode 27 = .ok (.iadd, 1) := by decide +kernel
theorem dX1_encode_28 : decode cX1_encode 28 = .ok (.iaload, 1) := by decide +kernel
theorem dX1_encode_29 : decode cX1_encode 29 = .ok (.iconst 1, 1) := by decide +kernel
theorem dX1_encode_30 : decode cX1_encode 30 = .ok (.isub, 1) := by decide +kernel
theorem dX1_encode_31 : decode cX1_encode 31 = .ok (.istore 6, 2) := by decide +kernel
theorem dX1_encode_33 : decode cX1_encode 33 = .ok (.iload 6, 2) := by decide +kernel
theorem dX1_encode_35 : decode cX1_encode 35 = .ok (.ifCond .lt 28, 3) := by decide +kernel
theorem dX1_encode_38 : decode cX1_encode 38 = .ok (.aload_n 2, 1) := by decide +kernel
theorem dX1_encode_39 : decode cX1_encode 39 = .ok (.iload 6, 2) := by decide +kernel
theorem dX1_encode_41 : decode cX1_encode 41 = .ok (.bipush 32, 2) := by decide +kernel
theorem dX1_encode_43 : decode cX1_encode 43 = .ok (.idiv, 1) := by decide +kernel
theorem dX1_encode_44 : decode cX1_encode 44 = .ok (.laload, 1) := by decide +kernel
theorem dX1_encode_45 : decode cX1_encode 45 = .ok (.iload 6, 2) := by decide +kernel
theorem dX1_encode_47 : decode cX1_encode 47 = .ok (.bipush 32, 2) := by decide +kernel
theorem dX1_encode_49 : decode cX1_encode 49 = .ok (.irem, 1) := by decide +kernel
theorem dX1_encode_50 : decode cX1_encode 50 = .ok (.lshr, 1) := by decide +kernel
theorem dX1_encode_51 : decode cX1_encode 51 = .ok (.lstore 7, 2) := by decide +kernel
theorem dX1_encode_53 : decode cX1_encode 53 = .ok (.lload_n 3, 1) := by decide +kernel
theorem dX1_encode_54 : decode cX1_encode 54 = .ok (.lload 7, 2) := by decide +kernel
theorem dX1_encode_56 : decode cX1_encode 56 = .ok (.lconst 1, 1) := by decide +kernel
theorem dX1_encode_57 : decode cX1_encode 57 = .ok (.land, 1) := by decide +kernel
theorem dX1_encode_58 : decode cX1_encode 58 = .ok (.iload 5, 2) := by decide +kernel
theorem dX1_encode_60 : decode cX1_encode 60 = .ok (.lshl, 1) := by decide +kernel
theorem dX1_encode_61 : decode cX1_encode 61 = .ok (.lor, 1) := by decide +kernel
theorem dX1_encode_62 : decode cX1_encode 62 = .ok (.lstore_n 3, 1) := by decide +kernel
theorem dX1_encode_63 : decode cX1_encode 63 = .ok (.iinc 5 1, 3) := by decide +kernel
theorem dX1_encode_66 : decode cX1_encode 66 = .ok (.goto (-56), 3) := by decide +kernel
theorem dX1_encode_69 : decode cX1_encode 69 = .ok (.lload_n 3, 1) := by decide +kernel
theorem dX1_encode_70 : decode cX1_encode 70 = .ok (.lreturn, 1) := by decide +kernel
theorem dX1_decode_0 : decode cX1_decode 0 = .ok (.aload_n 3, 1) := by decide +kernel
theorem dX1_decode_1 : decode cX1_decode 1 = .ok (.lconst 0, 1) := by decide +kernel
theorem dX1_decode_2 : decode cX1_decode 2 = .ok (.invokestatic 62, 3) := by decide +kernel
theorem dX1_decode_5 : decode cX1_decode 5 = .ok (.iconst 0, 1) := by decide +kernel
theorem dX1_decode_6 : decode cX1_decode 6 = .ok (.istore 4, 2) := by decide +kernel
theorem dX1_decode_8 : decode cX1_decode 8 = .ok (.iload 4, 2) := by decide +kernel
theorem dX1_decode_10 : decode cX1_decode 10 = .ok (.aload_n 0, 1) := by decide +kernel
theorem dX1_decode_11 : decode cX1_decode 11 = .ok (.getfield 56, 3) := by decide +kernel
theorem dX1_decode_14 : decode cX1_decode 14 = .ok (.bipush 32, 2) := by decide +kernel
theorem dX1_decode_16 : decode cX1_decode 16 = .ok (.imul, 1) := by decide +kernel
theorem dX1_decode_17 : decode cX1_decode 17 = .ok (.if_icmp .ge 62, 3) := by decide +kernel
theorem dX1_decode_20 : decode cX1_decode 20 = .ok (.aload_n 0, 1) := by decide +kernel
theorem dX1_decode_21 : decode cX1_decode 21 = .ok (.getfield 34, 3) := by decide +kernel
theorem dX1_decode_24 : decode cX1_decode 24 = .ok (.iload 4, 2) := by decide +kernel
theorem dX1_decode_26 : decode cX1_decode 26 = .ok (.iaload, 1) := by decide +kernel
theorem dX1_decode_27 : decode cX1_decode 27 = .ok (.iconst 1, 1) := by decide +kernel
theorem dX1_decode_28 : decode cX1_decode 28 = .ok (.isub, 1) := by decide +kernel
theorem dX1_decode_29 : decode cX1_decode 29 = .ok (.istore 5, 2) := by decide +kernel
theorem dX1_decode_31 : decode cX1_decode 31 = .ok (.iload 5, 2) := by decide +kernel
theorem dX1_decode_33 : decode cX1_decode 33 = .ok (.ifCond .lt 40, 3) := by decide +kernel
theorem dX1_decode_36 : decode cX1_decode 36 = .ok (.aload_n 1, 1) := by decide +kernel
theorem dX1_decode_37 : decode cX1_decode 37 = .ok (.iload_n 2, 1) := by decide +kernel
theorem dX1_decode_38 : decode cX1_decode 38 = .ok (.iload 4, 2) := by decide +kernel
theorem dX1_decode_40 : decode cX1_decode 40 = .ok (.bipush 32, 2) := by decide +kernel
theorem dX1_decode_42 : decode cX1_decode 42 = .ok (.idiv, 1) := by decide +kernel
theorem dX1_decode_43 : decode cX1_decode 43 = .ok (.iadd, 1) := by decide +kernel
theorem dX1_decode_44 : decode cX1_decode 44 = .ok (.laload, 1) := by decide +kernel
theorem dX1_decode_45 : decode cX1_decode 45 = .ok (.iload 4, 2) := by decide +kernel
theorem dX1_decode_47 : decode cX1_decode 47 = .ok (.bipush 32, 2) := by decide +kernel
theorem dX1_decode_49 : decode cX1_decode 49 = .ok (.irem, 1) := by decide +kernel
theorem dX1_decode_50 : decode cX1_decode 50 = .ok (.lshr, 1) := by decide +kernel
theorem dX1_decode_51 : decode cX1_decode 51 = .ok (.lconst 1, 1) := by decide +kernel
theorem dX1_decode_52 : decode cX1_decode 52 = .ok (.land, 1) := by decide +kernel
theorem dX1_decode_53 : decode cX1_decode 53 = .ok (.lstore 6, 2) := by decide +kernel
theorem dX1_decode_55 : decode cX1_decode 55 = .ok (.aload_n 3, 1) := by decide +kernel
theorem dX1_decode_56 : decode cX1_decode 56 = .ok (.iload 5, 2) := by decide +kernel
theorem dX1_decode_58 : decode cX1_decode 58 = .ok (.bipush 32, 2) := by decide +kernel
theorem dX1_decode_60 : decode cX1_decode 60 = .ok (.idiv, 1) := by decide +kernel
theorem dX1_decode_61 : decode cX1_decode 61 = .ok (.dup2, 1) := by decide +kernel
theorem dX1_decode_62 : decode cX1_decode 62 = .ok (.laload, 1) := by decide +kernel
theorem dX1_decode_63 : decode cX1_decode 63 = .ok (.lload 6, 2) := by decide +kernel
theorem dX1_decode_65 : decode cX1_decode 65 = .ok (.iload 5, 2) := by decide +kernel
theorem dX1_decode_67 : decode cX1_decode 67 = .ok (.bipush 32, 2) := by decide +kernel
theorem dX1_decode_69 : decode cX1_decode 69 = .ok (.irem, 1) := by decide +kernel
theorem dX1_decode_70 : decode cX1_decode 70 = .ok (.lshl, 1) := by decide +kernel
theorem dX1_decode_71 : decode cX1_decode 71 = .ok (.lor, 1) := by decide +kernel
theorem dX1_decode_72 : decode cX1_decode 72 = .ok (.lastore, 1) := by decide +kernel
theorem dX1_decode_73 : decode cX1_decode 73 = .ok (.iinc 4 1, 3) := by decide +kernel
theorem dX1_decode_76 : decode cX1_decode 76 = .ok (.goto (-68), 3) := by decide +kernel
theorem dX1_decode_79 : decode cX1_decode 79 = .ok (.return_, 1) := by decide +kernel
theorem dX1_mayBe_0 : decode cX1_mayBe 0 = .ok (.iconst 0, 1) := by decide +kernel
theorem dX1_mayBe_1 : decode cX1_mayBe 1 = .ok (.istore_n 2, 1) := by decide +kernel
theorem dX1_mayBe_2 : decode cX1_mayBe 2 = .ok (.iload_n 2, 1) := by decide +kernel
theorem dX1_mayBe_3 : decode cX1_mayBe 3 = .ok (.aload_n 0, 1) := by decide +kernel
theorem dX1_mayBe_4 : decode cX1_mayBe 4 = .ok (.getfield 56, 3) := by decide +kernel
theorem dX1_mayBe_7 : decode cX1_mayBe 7 = .ok (.if_icmp .ge 51, 3) := by decide +kernel
theorem dX1_mayBe_10 : decode cX1_mayBe 10 = .ok (.iload_n 2, 1) := by decide +kernel
theorem dX1_mayBe_11 : decode cX1_mayBe 11 = .ok (.aload_n 1, 1) := by decide +kernel
theorem dX1_mayBe_12 : decode cX1_mayBe 12 = .ok (.getfield 56, 3) := by decide +kernel
theorem dX1_mayBe_15 : decode cX1_mayBe 15 = .ok (.if_icmp .ge 43, 3) := by decide +kernel
theorem dX1_mayBe_18 : decode cX1_mayBe 18 = .ok (.aload_n 0, 1) := by decide +kernel
theorem dX1_mayBe_19 : decode cX1_mayBe 19 = .ok (.getfield 27, 3) := by decide +kernel
theorem dX1_mayBe_22 : decode cX1_mayBe 22 = .ok (.iload_n 2, 1) := by decide +kernel
theorem dX1_mayBe_23 : decode cX1_mayBe 23 = .ok (.laload, 1) := by decide +kernel
theorem dX1_mayBe_24 : decode cX1_mayBe 24 = .ok (.aload_n 1, 1) := by decide +kernel
theorem dX1_mayBe_25 : decode cX1_mayBe 25 = .ok (.getfield 27, 3) := by decide +kernel
theorem dX1_mayBe_28 : decode cX1_mayBe 28 = .ok (.iload_n 2, 1) := by decide +kernel
theorem dX1_mayBe_29 : decode cX1_mayBe 29 = .ok (.laload, 1) := by decide +kernel
theorem dX1_mayBe_30 : decode cX1_mayBe 30 = .ok (.land, 1) := by decide +kernel
theorem dX1_mayBe_31 : decode cX1_mayBe 31 = .ok (.aload_n 0, 1) := by decide +kernel
theorem dX1_mayBe_32 : decode cX1_mayBe 32 = .ok (.getfield 31, 3) := by decide +kernel
theorem dX1_mayBe_35 : decode cX1_mayBe 35 = .ok (.iload_n 2, 1) := by decide +kernel
theorem dX1_mayBe_36 : decode cX1_mayBe 36 = .ok (.laload, 1) := by decide +kernel
theorem dX1_mayBe_37 : decode cX1_mayBe 37 = .ok (.aload_n 1, 1) := by decide +kernel
theorem dX1_mayBe_38 : decode cX1_mayBe 38 = .ok (.getfield 31, 3) := by decide +kernel
theorem dX1_mayBe_41 : decode cX1_mayBe 41 = .ok (.iload_n 2, 1) := by decide +kernel
theorem dX1_mayBe_42 : decode cX1_mayBe 42 = .ok (.laload, 1) := by decide +kernel
theorem dX1_mayBe_43 : decode cX1_mayBe 43 = .ok (.lxor, 1) := by decide +kernel
theorem dX1_mayBe_44 : decode cX1_mayBe 44 = .ok (.land, 1) := by decide +kernel
theorem dX1_mayBe_45 : decode cX1_mayBe 45 = .ok (.lconst 0, 1) := by decide +kernel
theorem dX1_mayBe_46 : decode cX1_mayBe 46 = .ok (.lcmp, 1) := by decide +kernel
theorem dX1_mayBe_47 : decode cX1_mayBe 47 = .ok (.ifCond .eq 5, 3) := by decide +kernel
theorem dX1_mayBe_50 : decode cX1_mayBe 50 = .ok (.iconst 0, 1) := by decide +kernel
theorem dX1_mayBe_51 : decode cX1_mayBe 51 = .ok (.ireturn, 1) := by decide +kernel
theorem dX1_mayBe_52 : decode cX1_mayBe 52 = .ok (.iinc 2 1, 3) := by decide +kernel
theorem dX1_mayBe_55 : decode cX1_mayBe 55 = .ok (.goto (-53), 3) := by decide +kernel
theorem dX1_mayBe_58 : decode cX1_mayBe 58 = .ok (.iconst 1, 1) := by decide +kernel
theorem dX1_mayBe_59 : decode cX1_mayBe 59 = .ok (.ireturn, 1) := by decide +kernel
theorem dX2_isNumber_0 : decode cX2_isNumber 0 = .ok (.aload_n 0, 1) := by decide +kernel
theorem dX2_isNumber_1 : decode cX2_isNumber 1 = .ok (.getfield 9, 3) := by decide +kernel
theorem dX2_isNumber_4 : decode cX2_isNumber 4 = .ok (.iconst 1, 1) := by decide +kernel
theorem dX2_isNumber_5 : decode cX2_isNumber 5 = .ok (.if_icmp .eq 19, 3) := by decide +kernel
theorem dX2_isNumber_8 : decode cX2_isNumber 8 = .ok (.aload_n 0, 1) := by decide +kernel
theorem dX2_isNumber_9 : decode cX2_isNumber 9 = .ok (.getfield 9, 3) := by decide +kernel
theorem dX2_isNumber_12 : decode cX2_isNumber 12 = .ok (.iconst 2, 1) := by decide +kernel
theorem dX2_isNumber_13 : decode cX2_isNumber 13 = .ok (.if_icmp .eq 11, 3) := by decide +kernel
theorem dX2_isNumber_16 : decode cX2_isNumber 16 = .ok (.aload_n 0, 1) := by decide +kernel
theorem dX2_isNumber_17 : decode cX2_isNumber 17 = .ok (.getfield 9, 3) := by decide +kernel
theorem dX2_isNumber_20 : decode cX2_isNumber 20 = .ok (.iconst 3, 1) := by decide +kernel
theorem dX2_isNumber_21 : decode cX2_isNumber 21 = .ok (.if_icmp .ne 7, 3) := by decide +kernel
theorem dX2_isNumber_24 : decode cX2_isNumber 24 = .ok (.iconst 1, 1) := by decide +kernel
theorem dX2_isNumber_25 : decode cX2_isNumber 25 = .ok (.goto 4, 3) := by decide +kernel
theorem dX2_isNumber_28 : decode cX2_isNumber 28 = .ok (.iconst 0, 1) := by decide +kernel
theorem dX2_isNumber_29 : decode cX2_isNumber 29 = .ok (.ireturn, 1) := by decide +kernel
theorem dX2_holds_0 : decode cX2_holds 0 = .ok (.aload_n 0, 1) := by decide +kernel
theorem dX2_holds_1 : decode cX2_holds 1 = .ok (.getfield 9, 3) := by decide +kernel
theorem dX2_holds_4 : decode cX2_holds 4 = .ok (.iconst 1, 1) := by decide +kernel
theorem dX2_holds_5 : decode cX2_holds 5 = .ok (.if_icmp .ne 26, 3) := by decide +kernel
theorem dX2_holds_8 : decode cX2_holds 8 = .ok (.lload_n 1, 1) := by decide +kernel
theorem dX2_holds_9 : decode cX2_holds 9 = .ok (.lconst 0, 1) := by decide +kernel
theorem dX2_holds_10 : decode cX2_holds 10 = .ok (.lcmp, 1) := by decide +kernel
theorem dX2_holds_11 : decode cX2_holds 11 = .ok (.ifCond .lt 18, 3) := by decide +kernel
theorem dX2_holds_14 : decode cX2_holds 14 = .ok (.lload_n 1, 1) := by decide +kernel
theorem dX2_holds_15 : decode cX2_holds 15 = .ok (.lconst 1, 1) := by decide +kernel
theorem dX2_holds_16 : decode cX2_holds 16 = .ok (.aload_n 0, 1) := by decide +kernel
theorem dX2_holds_17 : decode cX2_holds 17 = .ok (.getfield 28, 3) := by decide +kernel
theorem dX2_holds_20 : decode cX2_holds 20 = .ok (.lshl, 1) := by decide +kernel
theorem dX2_holds_21 : decode cX2_holds 21 = .ok (.lcmp, 1) := by decide +kernel
theorem dX2_holds_22 : decode cX2_holds 22 = .ok (.ifCond .ge 7, 3) := by decide +kernel
theorem dX2_holds_25 : decode cX2_holds 25 = .ok (.iconst 1, 1) := by decide +kernel
theorem dX2_holds_26 : decode cX2_holds 26 = .ok (.goto 4, 3) := by decide +kernel
theorem dX2_holds_29 : decode cX2_holds 29 = .ok (.iconst 0, 1) := by decide +kernel
theorem dX2_holds_30 : decode cX2_holds 30 = .ok (.ireturn, 1) := by decide +kernel
theorem dX2_holds_31 : decode cX2_holds 31 = .ok (.lconst 1, 1) := by decide +kernel
theorem dX2_holds_32 : decode cX2_holds 32 = .ok (.aload_n 0, 1) := by decide +kernel
theorem dX2_holds_33 : decode cX2_holds 33 = .ok (.getfield 28, 3) := by decide +kernel
theorem dX2_holds_36 : decode cX2_holds 36 = .ok (.iconst 1, 1) := by decide +kernel
theorem dX2_holds_37 : decode cX2_holds 37 = .ok (.isub, 1) := by decide +kernel
theorem dX2_holds_38 : decode cX2_holds 38 = .ok (.lshl, 1) := by decide +kernel
theorem dX2_holds_39 : decode cX2_holds 39 = .ok (.lstore_n 3, 1) := by decide +kernel
theorem dX2_holds_40 : decode cX2_holds 40 = .ok (.lload_n 1, 1) := by decide +kernel
theorem dX2_holds_41 : decode cX2_holds 41 = .ok (.lload_n 3, 1) := by decide +kernel
theorem dX2_holds_42 : decode cX2_holds 42 = .ok (.lneg, 1) := by decide +kernel
theorem dX2_holds_43 : decode cX2_holds 43 = .ok (.lcmp, 1) := by decide +kernel
theorem dX2_holds_44 : decode cX2_holds 44 = .ok (.ifCond .lt 13, 3) := by decide +kernel
theorem dX2_holds_47 : decode cX2_holds 47 = .ok (.lload_n 1, 1) := by decide +kernel
theorem dX2_holds_48 : decode cX2_holds 48 = .ok (.lload_n 3, 1) := by decide +kernel
theorem dX2_holds_49 : decode cX2_holds 49 = .ok (.lcmp, 1) := by decide +kernel
theorem dX2_holds_50 : decode cX2_holds 50 = .ok (.ifCond .ge 7, 3) := by decide +kernel
theorem dX2_holds_53 : decode cX2_holds 53 = .ok (.iconst 1, 1) := by decide +kernel
theorem dX2_holds_54 : decode cX2_holds 54 = .ok (.goto 4, 3) := by decide +kernel
theorem dX2_holds_57 : decode cX2_holds 57 = .ok (.iconst 0, 1) := by decide +kernel
theorem dX2_holds_58 : decode cX2_holds 58 = .ok (.ireturn, 1) := by decide +kernel
theorem dX2_has_0 : decode cX2_has 0 = .ok (.aload_n 0, 1) := by decide +kernel
theorem dX2_has_1 : decode cX2_has 1 = .ok (.invokevirtual 34, 3) := by decide +kernel
theorem dX2_has_4 : decode cX2_has 4 = .ok (.ifCond .ne 13, 3) := by decide +kernel
theorem dX2_has_7 : decode cX2_has 7 = .ok (.lload_n 1, 1) := by decide +kernel
theorem dX2_has_8 : decode cX2_has 8 = .ok (.aload_n 0, 1) := by decide +kernel
theorem dX2_has_9 : decode cX2_has 9 = .ok (.getfield 31, 3) := by decide +kernel
theorem dX2_has_12 : decode cX2_has 12 = .ok (.i2l, 1) := by decide +kernel
theorem dX2_has_13 : decode cX2_has 13 = .ok (.lcmp, 1) := by decide +kernel
theorem dX2_has_14 : decode cX2_has 14 = .ok (.ifCond .ge 7, 3) := by decide +kernel
theorem dX2_has_17 : decode cX2_has 17 = .ok (.iconst 1, 1) := by decide +kernel
theorem dX2_has_18 : decode cX2_has 18 = .ok (.goto 4, 3) := by decide +kernel
theorem dX2_has_21 : decode cX2_has 21 = .ok (.iconst 0, 1) := by decide +kernel
theorem dX2_has_22 : decode cX2_has 22 = .ok (.ireturn, 1) := by decide +kernel
theorem dX2_valueOf_0 : decode cX2_valueOf 0 = .ok (.aload_n 0, 1) := by decide +kernel
theorem dX2_valueOf_1 : decode cX2_valueOf 1 = .ok (.getfield 9, 3) := by decide +kernel
theorem dX2_valueOf_4 : decode cX2_valueOf 4 = .ok (.iconst 2, 1) := by decide +kernel
theorem dX2_valueOf_5 : decode cX2_valueOf 5 = .ok (.if_icmp .eq 11, 3) := by decide +kernel
theorem dX2_valueOf_8 : decode cX2_valueOf 8 = .ok (.aload_n 0, 1) := by decide +kernel
theorem dX2_valueOf_9 : decode cX2_valueOf 9 = .ok (.getfield 9, 3) := by decide +kernel
theorem dX2_valueOf_12 : decode cX2_valueOf 12 = .ok (.iconst 3, 1) := by decide +kernel
theorem dX2_valueOf_13 : decode cX2_valueOf 13 = .ok (.if_icmp .ne 20, 3) := by decide +kernel
theorem dX2_valueOf_16 : decode cX2_valueOf 16 = .ok (.lload_n 1, 1) := by decide +kernel
theorem dX2_valueOf_17 : decode cX2_valueOf 17 = .ok (.lconst 1, 1) := by decide +kernel
theorem dX2_valueOf_18 : decode cX2_valueOf 18 = .ok (.aload_n 0, 1) := by decide +kernel
theorem dX2_valueOf_19 : decode cX2_valueOf 19 = .ok (.getfield 28, 3) := by decide +kernel
theorem dX2_valueOf_22 : decode cX2_valueOf 22 = .ok (.iconst 1, 1) := by decide +kernel
theorem dX2_valueOf_23 : decode cX2_valueOf 23 = .ok (.isub, 1) := by decide +kernel
theorem dX2_valueOf_24 : decode cX2_valueOf 24 = .ok (.lshl, 1) := by decide +kernel
theorem dX2_valueOf_25 : decode cX2_valueOf 25 = .ok (.lcmp, 1) := by decide +kernel
theorem dX2_valueOf_26 : decode cX2_valueOf 26 = .ok (.ifCond .lt 7, 3) := by decide +kernel
theorem dX2_valueOf_29 : decode cX2_valueOf 29 = .ok (.iconst 1, 1) := by decide +kernel
theorem dX2_valueOf_30 : decode cX2_valueOf 30 = .ok (.goto 4, 3) := by decide +kernel
theorem dX2_valueOf_33 : decode cX2_valueOf 33 = .ok (.iconst 0, 1) := by decide +kernel
theorem dX2_valueOf_34 : decode cX2_valueOf 34 = .ok (.istore_n 3, 1) := by decide +kernel
theorem dX2_valueOf_35 : decode cX2_valueOf 35 = .ok (.iload_n 3, 1) := by decide +kernel
theorem dX2_valueOf_36 : decode cX2_valueOf 36 = .ok (.ifCond .eq 14, 3) := by decide +kernel
theorem dX2_valueOf_39 : decode cX2_valueOf 39 = .ok (.lload_n 1, 1) := by decide +kernel
theorem dX2_valueOf_40 : decode cX2_valueOf 40 = .ok (.lconst 1, 1) := by decide +kernel
theorem dX2_valueOf_41 : decode cX2_valueOf 41 = .ok (.aload_n 0, 1) := by decide +kernel
theorem dX2_valueOf_42 : decode cX2_valueOf 42 = .ok (.getfield 28, 3) := by decide +kernel
theorem dX2_valueOf_45 : decode cX2_valueOf 45 = .ok (.lshl, 1) := by decide +kernel
theorem dX2_valueOf_46 : decode cX2_valueOf 46 = .ok (.lsub, 1) := by decide +kernel
theorem dX2_valueOf_47 : decode cX2_valueOf 47 = .ok (.goto 4, 3) := by decide +kernel
theorem dX2_valueOf_50 : decode cX2_valueOf 50 = .ok (.lload_n 1, 1) := by decide +kernel
theorem dX2_valueOf_51 : decode cX2_valueOf 51 = .ok (.lreturn, 1) := by decide +kernel
theorem dX2_registerAt_0 : decode cX2_registerAt 0 = .ok (.aload_n 0, 1) := by decide +kernel
theorem dX2_registerAt_1 : decode cX2_registerAt 1 = .ok (.getfield 19, 3) := by decide +kernel
theorem dX2_registerAt_4 : decode cX2_registerAt 4 = .ok (.aload_n 1, 1) := by decide +kernel
theorem dX2_registerAt_5 : decode cX2_registerAt 5 = .ok (.iload_n 2, 1) := by decide +kernel
theorem dX2_registerAt_6 : decode cX2_registerAt 6 = .ok (.invokevirtual 38, 3) := by decide +kernel
theorem dX2_registerAt_9 : decode cX2_registerAt 9 = .ok (.istore_n 3, 1) := by decide +kernel
theorem dX2_registerAt_10 : decode cX2_registerAt 10 = .ok (.iload_n 3, 1) := by decide +kernel
theorem dX2_registerAt_11 : decode cX2_registerAt 11 = .ok (.iconst 1, 1) := by decide +kernel
theorem dX2_registerAt_12 : decode cX2_registerAt 12 = .ok (.if_icmp .lt 8, 3) := by decide +kernel
theorem dX2_registerAt_15 : decode cX2_registerAt 15 = .ok (.iload_n 3, 1) := by decide +kernel
theorem dX2_registerAt_16 : decode cX2_registerAt 16 = .ok (.iconst 2, 1) := by decide +kernel
theorem dX2_registerAt_17 : decode cX2_registerAt 17 = .ok (.if_icmp .le 5, 3) := by decide +kernel
theorem dX2_registerAt_20 : decode cX2_registerAt 20 = .ok (.iconst (-1), 1) := by decide +kernel
theorem dX2_registerAt_21 : decode cX2_registerAt 21 = .ok (.ireturn, 1) := by decide +kernel
theorem dX2_registerAt_22 : decode cX2_registerAt 22 = .ok (.aload_n 1, 1) := by decide +kernel
theorem dX2_registerAt_23 : decode cX2_registerAt 23 = .ok (.getfield 42, 3) := by decide +kernel
theorem dX2_registerAt_26 : decode cX2_registerAt 26 = .ok (.aload_n 1, 1) := by decide +kernel
theorem dX2_registerAt_27 : decode cX2_registerAt 27 = .ok (.getfield 48, 3) := by decide +kernel
theorem dX2_registerAt_30 : decode cX2_registerAt 30 = .ok (.iload_n 2, 1) := by decide +kernel
theorem dX2_registerAt_31 : decode cX2_registerAt 31 = .ok (.iaload, 1) := by decide +kernel
theorem dX2_registerAt_32 : decode cX2_registerAt 32 = .ok (.iconst 1, 1) := by decide +kernel
theorem dX2_registerAt_33 : decode cX2_registerAt 33 = .ok (.isub, 1) := by decide +kernel
theorem dX2_registerAt_34 : decode cX2_registerAt 34 = .ok (.baload, 1) := by decide +kernel
theorem dX2_registerAt_35 : decode cX2_registerAt 35 = .ok (.bipush 48, 2) := by decide +kernel
theorem dX2_registerAt_37 : decode cX2_registerAt 37 = .ok (.isub, 1) := by decide +kernel
theorem dX2_registerAt_38 : decode cX2_registerAt 38 = .ok (.istore 4, 2) := by decide +kernel
theorem dX2_registerAt_40 : decode cX2_registerAt 40 = .ok (.iload_n 3, 1) := by decide +kernel
theorem dX2_registerAt_41 : decode cX2_registerAt 41 = .ok (.iconst 2, 1) := by decide +kernel
theorem dX2_registerAt_42 : decode cX2_registerAt 42 = .ok (.if_icmp .ne 22, 3) := by decide +kernel
theorem dX2_registerAt_45 : decode cX2_registerAt 45 = .ok (.aload_n 1, 1) := by decide +kernel
theorem dX2_registerAt_46 : decode cX2_registerAt 46 = .ok (.getfield 42, 3) := by decide +kernel
theorem dX2_registerAt_49 : decode cX2_registerAt 49 = .ok (.aload_n 1, 1) := by decide +kernel
theorem dX2_registerAt_50 : decode cX2_registerAt 50 = .ok (.getfield 48, 3) := by decide +kernel
theorem dX2_registerAt_53 : decode cX2_registerAt 53 = .ok (.iload_n 2, 1) := by decide +kernel
theorem dX2_registerAt_54 : decode cX2_registerAt 54 = .ok (.iaload, 1) := by decide +kernel
theorem dX2_registerAt_55 : decode cX2_registerAt 55 = .ok (.iconst 2, 1) := by decide +kernel
theorem dX2_registerAt_56 : decode cX2_registerAt 56 = .ok (.isub, 1) := by decide +kernel
theorem dX2_registerAt_57 : decode cX2_registerAt 57 = .ok (.baload, 1) := by decide +kernel
theorem dX2_registerAt_58 : decode cX2_registerAt 58 = .ok (.bipush 48, 2) := by decide +kernel
theorem dX2_registerAt_60 : decode cX2_registerAt 60 = .ok (.isub, 1) := by decide +kernel
theorem dX2_registerAt_61 : decode cX2_registerAt 61 = .ok (.goto 4, 3) := by decide +kernel
theorem dX2_registerAt_64 : decode cX2_registerAt 64 = .ok (.iconst 0, 1) := by decide +kernel
theorem dX2_registerAt_65 : decode cX2_registerAt 65 = .ok (.istore 5, 2) := by decide +kernel
theorem dX2_registerAt_67 : decode cX2_registerAt 67 = .ok (.iload 4, 2) := by decide +kernel
theorem dX2_registerAt_69 : decode cX2_registerAt 69 = .ok (.ifCond .lt 26, 3) := by decide +kernel
theorem dX2_registerAt_72 : decode cX2_registerAt 72 = .ok (.iload 4, 2) := by decide +kernel
theorem dX2_registerAt_74 : decode cX2_registerAt 74 = .ok (.bipush 9, 2) := by decide +kernel
theorem dX2_registerAt_76 : decode cX2_registerAt 76 = .ok (.if_icmp .gt 19, 3) := by decide +kernel
theorem dX2_registerAt_79 : decode cX2_registerAt 79 = .ok (.iload 5, 2) := by decide +kernel
theorem dX2_registerAt_81 : decode cX2_registerAt 81 = .ok (.ifCond .lt 14, 3) := by decide +kernel
theorem dX2_registerAt_84 : decode cX2_registerAt 84 = .ok (.iload 5, 2) := by decide +kernel
theorem dX2_registerAt_86 : decode cX2_registerAt 86 = .ok (.bipush 9, 2) := by decide +kernel
theorem dX2_registerAt_88 : decode cX2_registerAt 88 = .ok (.if_icmp .gt 7, 3) := by decide +kernel
theorem dX2_registerAt_91 : decode cX2_registerAt 91 = .ok (.iconst 1, 1) := by decide +kernel
theorem dX2_registerAt_92 : decode cX2_registerAt 92 = .ok (.goto 4, 3) := by decide +kernel
theorem dX2_registerAt_95 : decode cX2_registerAt 95 = .ok (.iconst 0, 1) := by decide +kernel
theorem dX2_registerAt_96 : decode cX2_registerAt 96 = .ok (.istore 6, 2) := by decide +kernel
theorem dX2_registerAt_98 : decode cX2_registerAt 98 = .ok (.iload 6, 2) := by decide +kernel
theorem dX2_registerAt_100 : decode cX2_registerAt 100 = .ok (.ifCond .eq 13, 3) := by decide +kernel
theorem dX2_registerAt_103 : decode cX2_registerAt 103 = .ok (.iload_n 3, 1) := by decide +kernel
theorem dX2_registerAt_104 : decode cX2_registerAt 104 = .ok (.iconst 2, 1) := by decide +kernel
theorem dX2_registerAt_105 : decode cX2_registerAt 105 = .ok (.if_icmp .ne 10, 3) := by decide +kernel
theorem dX2_registerAt_108 : decode cX2_registerAt 108 = .ok (.iload 5, 2) := by decide +kernel
theorem dX2_registerAt_110 : decode cX2_registerAt 110 = .ok (.ifCond .ne 5, 3) := by decide +kernel
theorem dX2_registerAt_113 : decode cX2_registerAt 113 = .ok (.iconst (-1), 1) := by decide +kernel
theorem dX2_registerAt_114 : decode cX2_registerAt 114 = .ok (.ireturn, 1) := by decide +kernel
theorem dX2_registerAt_115 : decode cX2_registerAt 115 = .ok (.iload 5, 2) := by decide +kernel
theorem dX2_registerAt_117 : decode cX2_registerAt 117 = .ok (.bipush 10, 2) := by decide +kernel
theorem dX2_registerAt_119 : decode cX2_registerAt 119 = .ok (.imul, 1) := by decide +kernel
theorem dX2_registerAt_120 : decode cX2_registerAt 120 = .ok (.iload 4, 2) := by decide +kernel
theorem dX2_registerAt_122 : decode cX2_registerAt 122 = .ok (.iadd, 1) := by decide +kernel
theorem dX2_registerAt_123 : decode cX2_registerAt 123 = .ok (.istore 7, 2) := by decide +kernel
theorem dX2_registerAt_125 : decode cX2_registerAt 125 = .ok (.iload 7, 2) := by decide +kernel
theorem dX2_registerAt_127 : decode cX2_registerAt 127 = .ok (.aload_n 0, 1) := by decide +kernel
theorem dX2_registerAt_128 : decode cX2_registerAt 128 = .ok (.getfield 31, 3) := by decide +kernel
theorem dX2_registerAt_131 : decode cX2_registerAt 131 = .ok (.if_icmp .ge 8, 3) := by decide +kernel
theorem dX2_registerAt_134 : decode cX2_registerAt 134 = .ok (.iload 7, 2) := by decide +kernel
theorem dX2_registerAt_136 : decode cX2_registerAt 136 = .ok (.goto 4, 3) := by decide +kernel
theorem dX2_registerAt_139 : decode cX2_registerAt 139 = .ok (.iconst (-1), 1) := by decide +kernel
theorem dX2_registerAt_140 : decode cX2_registerAt 140 = .ok (.ireturn, 1) := by decide +kernel
theorem dX3_init_0 : decode cX3_init 0 = .ok (.aload_n 0, 1) := by decide +kernel
theorem dX3_init_1 : decode cX3_init 1 = .ok (.invokespecial 3, 3) := by decide +kernel
theorem dX3_init_4 : decode cX3_init 4 = .ok (.aload_n 0, 1) := by decide +kernel
theorem dX3_init_5 : decode cX3_init 5 = .ok (.iconst (-1), 1) := by decide +kernel
theorem dX3_init_6 : decode cX3_init 6 = .ok (.putfield 9, 3) := by decide +kernel
theorem dX3_init_9 : decode cX3_init 9 = .ok (.aload_n 0, 1) := by decide +kernel
theorem dX3_init_10 : decode cX3_init 10 = .ok (.iconst (-1), 1) := by decide +kernel
theorem dX3_init_11 : decode cX3_init 11 = .ok (.putfield 15, 3) := by decide +kernel
theorem dX3_init_14 : decode cX3_init 14 = .ok (.aload_n 0, 1) := by decide +kernel
theorem dX3_init_15 : decode cX3_init 15 = .ok (.iload_n 1, 1) := by decide +kernel
theorem dX3_init_16 : decode cX3_init 16 = .ok (.putfield 18, 3) := by decide +kernel
theorem dX3_init_19 : decode cX3_init 19 = .ok (.aload_n 0, 1) := by decide +kernel
theorem dX3_init_20 : decode cX3_init 20 = .ok (.iload_n 2, 1) := by decide +kernel
theorem dX3_init_21 : decode cX3_init 21 = .ok (.putfield 21, 3) := by decide +kernel
theorem dX3_init_24 : decode cX3_init 24 = .ok (.aload_n 0, 1) := by decide +kernel
theorem dX3_init_25 : decode cX3_init 25 = .ok (.iload_n 3, 1) := by decide +kernel
theorem dX3_init_26 : decode cX3_init 26 = .ok (.putfield 24, 3) := by decide +kernel
theorem dX3_init_29 : decode cX3_init 29 = .ok (.aload_n 0, 1) := by decide +kernel
theorem dX3_init_30 : decode cX3_init 30 = .ok (.iload_n 1, 1) := by decide +kernel
theorem dX3_init_31 : decode cX3_init 31 = .ok (.iconst 1, 1) := by decide +kernel
theorem dX3_init_32 : decode cX3_init 32 = .ok (.if_icmp .ne 7, 3) := by decide +kernel
theorem dX3_init_35 : decode cX3_init 35 = .ok (.iconst 5, 1) := by decide +kernel
theorem dX3_init_36 : decode cX3_init 36 = .ok (.goto 4, 3) := by decide +kernel
theorem dX3_init_39 : decode cX3_init 39 = .ok (.iconst 0, 1) := by decide +kernel
theorem dX3_init_40 : decode cX3_init 40 = .ok (.newarray .int, 2) := by decide +kernel
theorem dX3_init_42 : decode cX3_init 42 = .ok (.putfield 27, 3) := by decide +kernel
theorem dX3_init_45 : decode cX3_init 45 = .ok (.return_, 1) := by decide +kernel
theorem dX4_init_0 : decode cX4_init 0 = .ok (.aload_n 0, 1) := by decide +kernel
theorem dX4_init_1 : decode cX4_init 1 = .ok (.invokespecial 3, 3) := by decide +kernel
theorem dX4_init_4 : decode cX4_init 4 = .ok (.aload_n 0, 1) := by decide +kernel
theorem dX4_init_5 : decode cX4_init 5 = .ok (.iconst 5, 1) := by decide +kernel
theorem dX4_init_6 : decode cX4_init 6 = .ok (.newarray .long, 2) := by decide +kernel
theorem dX4_init_8 : decode cX4_init 8 = .ok (.putfield 9, 3) := by decide +kernel
theorem dX4_init_11 : decode cX4_init 11 = .ok (.aload_n 0, 1) := by decide +kernel
theorem dX4_init_12 : decode cX4_init 12 = .ok (.bipush 20, 2) := by decide +kernel
theorem dX4_init_14 : decode cX4_init 14 = .ok (.newarray .byte, 2) := by decide +kernel
theorem dX4_init_16 : decode cX4_init 16 = .ok (.putfield 15, 3) := by decide +kernel
theorem dX4_init_19 : decode cX4_init 19 = .ok (.aload_n 0, 1) := by decide +kernel
theorem dX4_init_20 : decode cX4_init 20 = .ok (.sipush 200, 3) := by decide +kernel
theorem dX4_init_23 : decode cX4_init 23 = .ok (.newarray .byte, 2) := by decide +kernel
theorem dX4_init_25 : decode cX4_init 25 = .ok (.putfield 19, 3) := by decide +kernel
theorem dX4_init_28 : decode cX4_init 28 = .ok (.aload_n 0, 1) := by decide +kernel
theorem dX4_init_29 : decode cX4_init 29 = .ok (.iconst (-1), 1) := by decide +kernel
theorem dX4_init_30 : decode cX4_init 30 = .ok (.putfield 22, 3) := by decide +kernel
theorem dX4_init_33 : decode cX4_init 33 = .ok (.aload_n 0, 1) := by decide +kernel
theorem dX4_init_34 : decode cX4_init 34 = .ok (.aload_n 1, 1) := by decide +kernel
theorem dX4_init_35 : decode cX4_init 35 = .ok (.putfield 26, 3) := by decide +kernel
theorem dX4_init_38 : decode cX4_init 38 = .ok (.aload_n 0, 1) := by decide +kernel
theorem dX4_init_39 : decode cX4_init 39 = .ok (.aload_n 2, 1) := by decide +kernel
theorem dX4_init_40 : decode cX4_init 40 = .ok (.putfield 30, 3) := by decide +kernel
theorem dX4_init_43 : decode cX4_init 43 = .ok (.return_, 1) := by decide +kernel
theorem dX4_addByte_0 : decode cX4_addByte 0 = .ok (.aload_n 0, 1) := by decide +kernel
theorem dX4_addByte_1 : decode cX4_addByte 1 = .ok (.getfield 34, 3) := by decide +kernel
theorem dX4_addByte_4 : decode cX4_addByte 4 = .ok (.sipush 200, 3) := by decide +kernel
theorem dX4_addByte_7 : decode cX4_addByte 7 = .ok (.if_icmp .ge 24, 3) := by decide +kernel
theorem dX4_addByte_10 : decode cX4_addByte 10 = .ok (.aload_n 0, 1) := by decide +kernel
theorem dX4_addByte_11 : decode cX4_addByte 11 = .ok (.getfield 19, 3) := by decide +kernel
theorem dX4_addByte_14 : decode cX4_addByte 14 = .ok (.aload_n 0, 1) := by decide +kernel
theorem dX4_addByte_15 : decode cX4_addByte 15 = .ok (.getfield 34, 3) := by decide +kernel
theorem dX4_addByte_18 : decode cX4_addByte 18 = .ok (.iload_n 1, 1) := by decide +kernel
theorem dX4_addByte_19 : decode cX4_addByte 19 = .ok (.i2b, 1) := by decide +kernel
theorem dX4_addByte_20 : decode cX4_addByte 20 = .ok (.bastore, 1) := by decide +kernel
theorem dX4_addByte_21 : decode cX4_addByte 21 = .ok (.aload_n 0, 1) := by decide +kernel
theorem dX4_addByte_22 : decode cX4_addByte 22 = .ok (.dup, 1) := by decide +kernel
theorem dX4_addByte_23 : decode cX4_addByte 23 = .ok (.getfield 34, 3) := by decide +kernel
theorem dX4_addByte_26 : decode cX4_addByte 26 = .ok (.iconst 1, 1) := by decide +kernel
theorem dX4_addByte_27 : decode cX4_addByte 27 = .ok (.iadd, 1) := by decide +kernel
theorem dX4_addByte_28 : decode cX4_addByte 28 = .ok (.putfield 34, 3) := by decide +kernel
theorem dX4_addByte_31 : decode cX4_addByte 31 = .ok (.return_, 1) := by decide +kernel
theorem dX4_addText_0 : decode cX4_addText 0 = .ok (.iconst 0, 1) := by decide +kernel
theorem dX4_addText_1 : decode cX4_addText 1 = .ok (.istore_n 2, 1) := by decide +kernel
theorem dX4_addText_2 : decode cX4_addText 2 = .ok (.iload_n 2, 1) := by decide +kernel
theorem dX4_addText_3 : decode cX4_addText 3 = .ok (.aload_n 1, 1) := by decide +kernel
theorem dX4_addText_4 : decode cX4_addText 4 = .ok (.invokevirtual 37, 3) := by decide +kernel
theorem dX4_addText_7 : decode cX4_addText 7 = .ok (.if_icmp .ge 18, 3) := by decide +kernel
theorem dX4_addText_10 : decode cX4_addText 10 = .ok (.aload_n 0, 1) := by decide +kernel
theorem dX4_addText_11 : decode cX4_addText 11 = .ok (.aload_n 1, 1) := by decide +kernel
theorem dX4_addText_12 : decode cX4_addText 12 = .ok (.iload_n 2, 1) := by decide +kernel
theorem dX4_addText_13 : decode cX4_addText 13 = .ok (.invokevirtual 42, 3) := by decide +kernel
theorem dX4_addText_16 : decode cX4_addText 16 = .ok (.invokevirtual 46, 3) := by decide +kernel
theorem dX4_addText_19 : decode cX4_addText 19 = .ok (.iinc 2 1, 3) := by decide +kernel
theorem dX4_addText_22 : decode cX4_addText 22 = .ok (.goto (-20), 3) := by decide +kernel
theorem dX4_addText_25 : decode cX4_addText 25 = .ok (.return_, 1) := by decide +kernel
theorem dX4_addName_0 : decode cX4_addName 0 = .ok (.iconst 0, 1) := by decide +kernel
theorem dX4_addName_1 : decode cX4_addName 1 = .ok (.istore_n 2, 1) := by decide +kernel
theorem dX4_addName_2 : decode cX4_addName 2 = .ok (.iload_n 2, 1) := by decide +kernel
theorem dX4_addName_3 : decode cX4_addName 3 = .ok (.aload_n 1, 1) := by decide +kernel
theorem dX4_addName_4 : decode cX4_addName 4 = .ok (.getfield 50, 3) := by decide +kernel
theorem dX4_addName_7 : decode cX4_addName 7 = .ok (.arraylength, 1) := by decide +kernel
theorem dX4_addName_8 : decode cX4_addName 8 = .ok (.if_icmp .ge 19, 3) := by decide +kernel
theorem dX4_addName_11 : decode cX4_addName 11 = .ok (.aload_n 0, 1) := by decide +kernel
theorem dX4_addName_12 : decode cX4_addName 12 = .ok (.aload_n 1, 1) := by decide +kernel
theorem dX4_addName_13 : decode cX4_addName 13 = .ok (.getfield 50, 3) := by decide +kernel
theorem dX4_addName_16 : decode cX4_addName 16 = .ok (.iload_n 2, 1) := by decide +kernel
theorem dX4_addName_17 : decode cX4_addName 17 = .ok (.baload, 1) := by decide +kernel
theorem dX4_addName_18 : decode cX4_addName 18 = .ok (.invokevirtual 46, 3) := by decide +kernel
theorem dX4_addName_21 : decode cX4_addName 21 = .ok (.iinc 2 1, 3) := by decide +kernel
theorem dX4_addName_24 : decode cX4_addName 24 = .ok (.goto (-22), 3) := by decide +kernel
theorem dX4_addName_27 : decode cX4_addName 27 = .ok (.return_, 1) := by decide +kernel
theorem dX4_addNumber_0 : decode cX4_addNumber 0 = .ok (.lload_n 1, 1) := by decide +kernel
theorem dX4_addNumber_1 : decode cX4_addNumber 1 = .ok (.lconst 0, 1) := by decide +kernel
theorem dX4_addNumber_2 : decode cX4_addNumber 2 = .ok (.lcmp, 1) := by decide +kernel
theorem dX4_addNumber_3 : decode cX4_addNumber 3 = .ok (.ifCond .ge 9, 3) := by decide +kernel
theorem dX4_addNumber_6 : decode cX4_addNumber 6 = .ok (.aload_n 0, 1) := by decide +kernel
theorem dX4_addNumber_7 : decode cX4_addNumber 7 = .ok (.bipush 45, 2) := by decide +kernel
theorem dX4_addNumber_9 : decode cX4_addNumber 9 = .ok (.invokevirtual 46, 3) := by decide +kernel
theorem dX4_addNumber_12 : decode cX4_addNumber 12 = .ok (.lload_n 1, 1) := by decide +kernel
theorem dX4_addNumber_13 : decode cX4_addNumber 13 = .ok (.lconst 0, 1) := by decide +kernel
theorem dX4_addNumber_14 : decode cX4_addNumber 14 = .ok (.lcmp, 1) := by decide +kernel
theorem dX4_addNumber_15 : decode cX4_addNumber 15 = .ok (.ifCond .ge 8, 3) := by decide +kernel
theorem dX4_addNumber_18 : decode cX4_addNumber 18 = .ok (.lload_n 1, 1) := by decide +kernel
theorem dX4_addNumber_19 : decode cX4_addNumber 19 = .ok (.lneg, 1) := by decide +kernel
theorem dX4_addNumber_20 : decode cX4_addNumber 20 = .ok (.goto 4, 3) := by decide +kernel
theorem dX4_addNumber_23 : decode cX4_addNumber 23 = .ok (.lload_n 1, 1) := by decide +kernel
theorem dX4_addNumber_24 : decode cX4_addNumber 24 = .ok (.lstore_n 3, 1) := by decide +kernel
theorem dX4_addNumber_25 : decode cX4_addNumber 25 = .ok (.iconst 0, 1) := by decide +kernel
theorem dX4_addNumber_26 : decode cX4_addNumber 26 = .ok (.istore 5, 2) := by decide +kernel
theorem dX4_addNumber_28 : decode cX4_addNumber 28 = .ok (.aload_n 0, 1) := by decide +kernel
theorem dX4_addNumber_29 : decode cX4_addNumber 29 = .ok (.getfield 15, 3) := by decide +kernel
theorem dX4_addNumber_32 : decode cX4_addNumber 32 = .ok (.iload 5, 2) := by decide +kernel
theorem dX4_addNumber_34 : decode cX4_addNumber 34 = .ok (.ldc2_w 55, 3) := by decide +kernel
theorem dX4_addNumber_37 : decode cX4_addNumber 37 = .ok (.lload_n 3, 1) := by decide +kernel
theorem dX4_addNumber_38 : decode cX4_addNumber 38 = .ok (.ldc2_w 57, 3) := by decide +kernel
theorem dX4_addNumber_41 : decode cX4_addNumber 41 = .ok (.lrem, 1) := by decide +kernel
theorem dX4_addNumber_42 : decode cX4_addNumber 42 = .ok (.ladd, 1) := by decide +kernel
theorem dX4_addNumber_43 : decode cX4_addNumber 43 = .ok (.l2i, 1) := by decide +kernel
theorem dX4_addNumber_44 : decode cX4_addNumber 44 = .ok (.i2b, 1) := by decide +kernel
theorem dX4_addNumber_45 : decode cX4_addNumber 45 = .ok (.bastore, 1) := by decide +kernel
theorem dX4_addNumber_46 : decode cX4_addNumber 46 = .ok (.lload_n 3, 1) := by decide +kernel
theorem dX4_addNumber_47 : decode cX4_addNumber 47 = .ok (.ldc2_w 57, 3) := by decide +kernel
theorem dX4_addNumber_50 : decode cX4_addNumber 50 = .ok (.ldiv, 1) := by decide +kernel
theorem dX4_addNumber_51 : decode cX4_addNumber 51 = .ok (.lstore_n 3, 1) := by decide +kernel
theorem dX4_addNumber_52 : decode cX4_addNumber 52 = .ok (.iinc 5 1, 3) := by decide +kernel
theorem dX4_addNumber_55 : decode cX4_addNumber 55 = .ok (.lload_n 3, 1) := by decide +kernel
theorem dX4_addNumber_56 : decode cX4_addNumber 56 = .ok (.lconst 0, 1) := by decide +kernel
theorem dX4_addNumber_57 : decode cX4_addNumber 57 = .ok (.lcmp, 1) := by decide +kernel
theorem dX4_addNumber_58 : decode cX4_addNumber 58 = .ok (.ifCond .le 10, 3) := by decide +kernel
theorem dX4_addNumber_61 : decode cX4_addNumber 61 = .ok (.iload 5, 2) := by decide +kernel
theorem dX4_addNumber_63 : decode cX4_addNumber 63 = .ok (.bipush 20, 2) := by decide +kernel
theorem dX4_addNumber_65 : decode cX4_addNumber 65 = .ok (.if_icmp .lt (-37), 3) := by decide +kernel
theorem dX4_addNumber_68 : decode cX4_addNumber 68 = .ok (.iload 5, 2) := by decide +kernel
theorem dX4_addNumber_70 : decode cX4_addNumber 70 = .ok (.iconst 1, 1) := by decide +kernel
theorem dX4_addNumber_71 : decode cX4_addNumber 71 = .ok (.isub, 1) := by decide +kernel
theorem dX4_addNumber_72 : decode cX4_addNumber 72 = .ok (.istore 6, 2) := by decide +kernel
theorem dX4_addNumber_74 : decode cX4_addNumber 74 = .ok (.iload 6, 2) := by decide +kernel
theorem dX4_addNumber_76 : decode cX4_addNumber 76 = .ok (.ifCond .lt 20, 3) := by decide +kernel
theorem dX4_addNumber_79 : decode cX4_addNumber 79 = .ok (.aload_n 0, 1) := by decide +kernel
theorem dX4_addNumber_80 : decode cX4_addNumber 80 = .ok (.aload_n 0, 1) := by decide +kernel
theorem dX4_addNumber_81 : decode cX4_addNumber 81 = .ok (.getfield 15, 3) := by decide +kernel
theorem dX4_addNumber_84 : decode cX4_addNumber 84 = .ok (.iload 6, 2) := by decide +kernel
theorem dX4_addNumber_86 : decode cX4_addNumber 86 = .ok (.baload, 1) := by decide +kernel
theorem dX4_addNumber_87 : decode cX4_addNumber 87 = .ok (.invokevirtual 46, 3) := by decide +kernel
theorem dX4_addNumber_90 : decode cX4_addNumber 90 = .ok (.iinc 6 (-1), 3) := by decide +kernel
theorem dX4_addNumber_93 : decode cX4_addNumber 93 = .ok (.goto (-19), 3) := by decide +kernel
theorem dX4_addNumber_96 : decode cX4_addNumber 96 = .ok (.return_, 1) := by decide +kernel
theorem dX4_eightFrom_0 : decode cX4_eightFrom 0 = .ok (.lconst 0, 1) := by decide +kernel
theorem dX4_eightFrom_1 : decode cX4_eightFrom 1 = .ok (.lstore_n 2, 1) := by decide +kernel
theorem dX4_eightFrom_2 : decode cX4_eightFrom 2 = .ok (.iload_n 1, 1) := by decide +kernel
theorem dX4_eightFrom_3 : decode cX4_eightFrom 3 = .ok (.istore 4, 2) := by decide +kernel
theorem dX4_eightFrom_5 : decode cX4_eightFrom 5 = .ok (.iload 4, 2) := by decide +kernel
theorem dX4_eightFrom_7 : decode cX4_eightFrom 7 = .ok (.iload_n 1, 1) := by decide +kernel
theorem dX4_eightFrom_8 : decode cX4_eightFrom 8 = .ok (.bipush 8, 2) := by decide +kernel
theorem dX4_eightFrom_10 : decode cX4_eightFrom 10 = .ok (.iadd, 1) := by decide +kernel
theorem dX4_eightFrom_11 : decode cX4_eightFrom 11 = .ok (.if_icmp .ge 40, 3) := by decide +kernel
theorem dX4_eightFrom_14 : decode cX4_eightFrom 14 = .ok (.lload_n 2, 1) := by decide +kernel
theorem dX4_eightFrom_15 : decode cX4_eightFrom 15 = .ok (.bipush 8, 2) := by decide +kernel
theorem dX4_eightFrom_17 : decode cX4_eightFrom 17 = .ok (.lshl, 1) := by decide +kernel
theorem dX4_eightFrom_18 : decode cX4_eightFrom 18 = .ok (.iload 4, 2) := by decide +kernel
theorem dX4_eightFrom_20 : decode cX4_eightFrom 20 = .ok (.aload_n 0, 1) := by decide +kernel
theorem dX4_eightFrom_21 : decode cX4_eightFrom 21 = .ok (.getfield 34, 3) := by decide +kernel
theorem dX4_eightFrom_24 : decode cX4_eightFrom 24 = .ok (.if_icmp .ge 17, 3) := by decide +kernel
theorem dX4_eightFrom_27 : decode cX4_eightFrom 27 = .ok (.aload_n 0, 1) := by decide +kernel
theorem dX4_eightFrom_28 : decode cX4_eightFrom 28 = .ok (.getfield 19, 3) := by decide +kernel
theorem dX4_eightFrom_31 : decode cX4_eightFrom 31 = .ok (.iload 4, 2) := by decide +kernel
theorem dX4_eightFrom_33 : decode cX4_eightFrom 33 = .ok (.baload, 1) := by decide +kernel
theorem dX4_eightFrom_34 : decode cX4_eightFrom 34 = .ok (.sipush 255, 3) := by decide +kernel
theorem dX4_eightFrom_37 : decode cX4_eightFrom 37 = .ok (.iand, 1) := by decide +kernel
theorem dX4_eightFrom_38 : decode cX4_eightFrom 38 = .ok (.goto 4, 3) := by decide +kernel
theorem dX4_eightFrom_41 : decode cX4_eightFrom 41 = .ok (.iconst 0, 1) := by decide +kernel
theorem dX4_eightFrom_42 : decode cX4_eightFrom 42 = .ok (.i2l, 1) := by decide +kernel
theorem dX4_eightFrom_43 : decode cX4_eightFrom 43 = .ok (.lor, 1) := by decide +kernel
theorem dX4_eightFrom_44 : decode cX4_eightFrom 44 = .ok (.lstore_n 2, 1) := by decide +kernel
theorem dX4_eightFrom_45 : decode cX4_eightFrom 45 = .ok (.iinc 4 1, 3) := by decide +kernel
theorem dX4_eightFrom_48 : decode cX4_eightFrom 48 = .ok (.goto (-43), 3) := by decide +kernel
theorem dX4_eightFrom_51 : decode cX4_eightFrom 51 = .ok (.lload_n 2, 1) := by decide +kernel
theorem dX4_eightFrom_52 : decode cX4_eightFrom 52 = .ok (.lreturn, 1) := by decide +kernel
theorem dX4_addOperand_0 : decode cX4_addOperand 0 = .ok (.aload_n 1, 1) := by decide +kernel
theorem dX4_addOperand_1 : decode cX4_addOperand 1 = .ok (.getfield 147, 3) := by decide +kernel
theorem dX4_addOperand_4 : decode cX4_addOperand 4 = .ok (.iconst 4, 1) := by decide +kernel
theorem dX4_addOperand_5 : decode cX4_addOperand 5 = .ok (.if_icmp .ne 15, 3) := by decide +kernel
theorem dX4_addOperand_8 : decode cX4_addOperand 8 = .ok (.aload_n 0, 1) := by decide +kernel
theorem dX4_addOperand_9 : decode cX4_addOperand 9 = .ok (.aload_n 1, 1) := by decide +kernel
theorem dX4_addOperand_10 : decode cX4_addOperand 10 = .ok (.getfield 150, 3) := by decide +kernel
theorem dX4_addOperand_13 : decode cX4_addOperand 13 = .ok (.lload_n 2, 1) := by decide +kernel
theorem dX4_addOperand_14 : decode cX4_addOperand 14 = .ok (.l2i, 1) := by decide +kernel
theorem dX4_addOperand_15 : decode cX4_addOperand 15 = .ok (.aaload, 1) := by decide +kernel
theorem dX4_addOperand_16 : decode cX4_addOperand 16 = .ok (.invokevirtual 94, 3) := by decide +kernel
theorem dX4_addOperand_19 : decode cX4_addOperand 19 = .ok (.return_, 1) := by decide +kernel
theorem dX4_addOperand_20 : decode cX4_addOperand 20 = .ok (.aload_n 1, 1) := by decide +kernel
theorem dX4_addOperand_21 : decode cX4_addOperand 21 = .ok (.getfield 147, 3) := by decide +kernel
theorem dX4_addOperand_24 : decode cX4_addOperand 24 = .ok (.ifCond .ne 11, 3) := by decide +kernel
theorem dX4_addOperand_27 : decode cX4_addOperand 27 = .ok (.aload_n 0, 1) := by decide +kernel
theorem dX4_addOperand_28 : decode cX4_addOperand 28 = .ok (.aload_n 1, 1) := by decide +kernel
theorem dX4_addOperand_29 : decode cX4_addOperand 29 = .ok (.getfield 154, 3) := by decide +kernel
theorem dX4_addOperand_32 : decode cX4_addOperand 32 = .ok (.invokevirtual 94, 3) := by decide +kernel
theorem dX4_addOperand_35 : decode cX4_addOperand 35 = .ok (.aload_n 0, 1) := by decide +kernel
theorem dX4_addOperand_36 : decode cX4_addOperand 36 = .ok (.aload_n 1, 1) := by decide +kernel
theorem dX4_addOperand_37 : decode cX4_addOperand 37 = .ok (.getfield 147, 3) := by decide +kernel
theorem dX4_addOperand_40 : decode cX4_addOperand 40 = .ok (.iconst 3, 1) := by decide +kernel
theorem dX4_addOperand_41 : decode cX4_addOperand 41 = .ok (.if_icmp .ne 15, 3) := by decide +kernel
theorem dX4_addOperand_44 : decode cX4_addOperand 44 = .ok (.iload 4, 2) := by decide +kernel
theorem dX4_addOperand_46 : decode cX4_addOperand 46 = .ok (.i2l, 1) := by decide +kernel
theorem dX4_addOperand_47 : decode cX4_addOperand 47 = .ok (.aload_n 1, 1) := by decide +kernel
theorem dX4_addOperand_48 : decode cX4_addOperand 48 = .ok (.lload_n 2, 1) := by decide +kernel
theorem dX4_addOperand_49 : decode cX4_addOperand 49 = .ok (.invokevirtual 157, 3) := by decide +kernel
theorem dX4_addOperand_52 : decode cX4_addOperand 52 = .ok (.ladd, 1) := by decide +kernel
theorem dX4_addOperand_53 : decode cX4_addOperand 53 = .ok (.goto 8, 3) := by decide +kernel
theorem dX4_addOperand_56 : decode cX4_addOperand 56 = .ok (.aload_n 1, 1) := by decide +kernel
theorem dX4_addOperand_57 : decode cX4_addOperand 57 = .ok (.lload_n 2, 1) := by decide +kernel
theorem dX4_addOperand_58 : decode cX4_addOperand 58 = .ok (.invokevirtual 157, 3) := by decide +kernel
theorem dX4_addOperand_61 : decode cX4_addOperand 61 = .ok (.invokevirtual 74, 3) := by decide +kernel
theorem dX4_addOperand_64 : decode cX4_addOperand 64 = .ok (.return_, 1) := by decide +kernel
theorem dX4_addPart_0 : decode cX4_addPart 0 = .ok (.iload_n 2, 1) := by decide +kernel
theorem dX4_addPart_1 : decode cX4_addPart 1 = .ok (.ifCond .ge 28, 3) := by decide +kernel
theorem dX4_addPart_4 : decode cX4_addPart 4 = .ok (.iconst (-1), 1) := by decide +kernel
theorem dX4_addPart_5 : decode cX4_addPart 5 = .ok (.iload_n 2, 1) := by decide +kernel
theorem dX4_addPart_6 : decode cX4_addPart 6 = .ok (.isub, 1) := by decide +kernel
theorem dX4_addPart_7 : decode cX4_addPart 7 = .ok (.istore 4, 2) := by decide +kernel
theorem dX4_addPart_9 : decode cX4_addPart 9 = .ok (.aload_n 0, 1) := by decide +kernel
theorem dX4_addPart_10 : decode cX4_addPart 10 = .ok (.aload_n 1, 1) := by decide +kernel
theorem dX4_addPart_11 : decode cX4_addPart 11 = .ok (.getfield 134, 3) := by decide +kernel
theorem dX4_addPart_14 : decode cX4_addPart 14 = .ok (.iload 4, 2) := by decide +kernel
theorem dX4_addPart_16 : decode cX4_addPart 16 = .ok (.aaload, 1) := by decide +kernel
theorem dX4_addPart_17 : decode cX4_addPart 17 = .ok (.aload_n 0, 1) := by decide +kernel
theorem dX4_addPart_18 : decode cX4_addPart 18 = .ok (.getfield 9, 3) := by decide +kernel
theorem dX4_addPart_21 : decode cX4_addPart 21 = .ok (.iload 4, 2) := by decide +kernel
theorem dX4_addPart_23 : decode cX4_addPart 23 = .ok (.laload, 1) := by decide +kernel
theorem dX4_addPart_24 : decode cX4_addPart 24 = .ok (.iload_n 3, 1) := by decide +kernel
theorem dX4_addPart_25 : decode cX4_addPart 25 = .ok (.invokevirtual 143, 3) := by decide +kernel
theorem dX4_addPart_28 : decode cX4_addPart 28 = .ok (.return_, 1) := by decide +kernel
theorem dX4_addPart_29 : decode cX4_addPart 29 = .ok (.aload_n 0, 1) := by decide +kernel
theorem dX4_addPart_30 : decode cX4_addPart 30 = .ok (.iload_n 2, 1) := by decide +kernel
theorem dX4_addPart_31 : decode cX4_addPart 31 = .ok (.invokevirtual 46, 3) := by decide +kernel
theorem dX4_addPart_34 : decode cX4_addPart 34 = .ok (.iload_n 2, 1) := by decide +kernel
theorem dX4_addPart_35 : decode cX4_addPart 35 = .ok (.bipush 44, 2) := by decide +kernel
theorem dX4_addPart_37 : decode cX4_addPart 37 = .ok (.if_icmp .ne 9, 3) := by decide +kernel
theorem dX4_addPart_40 : decode cX4_addPart 40 = .ok (.aload_n 0, 1) := by decide +kernel
theorem dX4_addPart_41 : decode cX4_addPart 41 = .ok (.bipush 32, 2) := by decide +kernel
theorem dX4_addPart_43 : decode cX4_addPart 43 = .ok (.invokevirtual 46, 3) := by decide +kernel
theorem dX4_addPart_46 : decode cX4_addPart 46 = .ok (.return_, 1) := by decide +kernel
theorem dX6_has_0 : decode cX6_has 0 = .ok (.iload_n 1, 1) := by decide +kernel
theorem dX6_has_1 : decode cX6_has 1 = .ok (.ifCond .lt 23, 3) := by decide +kernel
theorem dX6_has_4 : decode cX6_has 4 = .ok (.iload_n 1, 1) := by decide +kernel
theorem dX6_has_5 : decode cX6_has 5 = .ok (.sipush 4096, 3) := by decide +kernel
theorem dX6_has_8 : decode cX6_has 8 = .ok (.if_icmp .ge 16, 3) := by decide +kernel
theorem dX6_has_11 : decode cX6_has 11 = .ok (.aload_n 0, 1) := by decide +kernel
theorem dX6_has_12 : decode cX6_has 12 = .ok (.getfield 15, 3) := by decide +kernel
theorem dX6_has_15 : decode cX6_has 15 = .ok (.iload_n 1, 1) := by decide +kernel
theorem dX6_has_16 : decode cX6_has 16 = .ok (.baload, 1) := by decide +kernel
theorem dX6_has_17 : decode cX6_has 17 = .ok (.ifCond .eq 7, 3) := by decide +kernel
theorem dX6_has_20 : decode cX6_has 20 = .ok (.iconst 1, 1) := by decide +kernel
theorem dX6_has_21 : decode cX6_has 21 = .ok (.goto 4, 3) := by decide +kernel
theorem dX6_has_24 : decode cX6_has 24 = .ok (.iconst 0, 1) := by decide +kernel
theorem dX6_has_25 : decode cX6_has 25 = .ok (.ireturn, 1) := by decide +kernel
theorem dX4_standsAt_0 : decode cX4_standsAt 0 = .ok (.iconst 0, 1) := by decide +kernel
theorem dX4_standsAt_1 : decode cX4_standsAt 1 = .ok (.istore_n 3, 1) := by decide +kernel
theorem dX4_standsAt_2 : decode cX4_standsAt 2 = .ok (.iload_n 3, 1) := by decide +kernel
theorem dX4_standsAt_3 : decode cX4_standsAt 3 = .ok (.aload_n 1, 1) := by decide +kernel
theorem dX4_standsAt_4 : decode cX4_standsAt 4 = .ok (.getfield 109, 3) := by decide +kernel
theorem dX4_standsAt_7 : decode cX4_standsAt 7 = .ok (.if_icmp .ge 52, 3) := by decide +kernel
theorem dX4_standsAt_10 : decode cX4_standsAt 10 = .ok (.aload_n 0, 1) := by decide +kernel
theorem dX4_standsAt_11 : decode cX4_standsAt 11 = .ok (.getfield 30, 3) := by decide +kernel
theorem dX4_standsAt_14 : decode cX4_standsAt 14 = .ok (.iload_n 2, 1) := by decide +kernel
theorem dX4_standsAt_15 : decode cX4_standsAt 15 = .ok (.iload_n 3, 1) := by decide +kernel
theorem dX4_standsAt_16 : decode cX4_standsAt 16 = .ok (.iadd, 1) := by decide +kernel
theorem dX4_standsAt_17 : decode cX4_standsAt 17 = .ok (.invokevirtual 122, 3) := by decide +kernel
theorem dX4_standsAt_20 : decode cX4_standsAt 20 = .ok (.ifCond .eq 31, 3) := by decide +kernel
theorem dX4_standsAt_23 : decode cX4_standsAt 23 = .ok (.aload_n 0, 1) := by decide +kernel
theorem dX4_standsAt_24 : decode cX4_standsAt 24 = .ok (.getfield 30, 3) := by decide +kernel
theorem dX4_standsAt_27 : decode cX4_standsAt 27 = .ok (.getfield 69, 3) := by decide +kernel
theorem dX4_standsAt_30 : decode cX4_standsAt 30 = .ok (.iload_n 2, 1) := by decide +kernel
theorem dX4_standsAt_31 : decode cX4_standsAt 31 = .ok (.iload_n 3, 1) := by decide +kernel
theorem dX4_standsAt_32 : decode cX4_standsAt 32 = .ok (.iadd, 1) := by decide +kernel
theorem dX4_standsAt_33 : decode cX4_standsAt 33 = .ok (.laload, 1) := by decide +kernel
theorem dX4_standsAt_34 : decode cX4_standsAt 34 = .ok (.aload_n 1, 1) := by decide +kernel
theorem dX4_standsAt_35 : decode cX4_standsAt 35 = .ok (.getfield 126, 3) := by decide +kernel
theorem dX4_standsAt_38 : decode cX4_standsAt 38 = .ok (.iload_n 3, 1) := by decide +kernel
theorem dX4_standsAt_39 : decode cX4_standsAt 39 = .ok (.laload, 1) := by decide +kernel
theorem dX4_standsAt_40 : decode cX4_standsAt 40 = .ok (.land, 1) := by decide +kernel
theorem dX4_standsAt_41 : decode cX4_standsAt 41 = .ok (.aload_n 1, 1) := by decide +kernel
theorem dX4_standsAt_42 : decode cX4_standsAt 42 = .ok (.getfield 129, 3) := by decide +kernel
theorem dX4_standsAt_45 : decode cX4_standsAt 45 = .ok (.iload_n 3, 1) := by decide +kernel
theorem dX4_standsAt_46 : decode cX4_standsAt 46 = .ok (.laload, 1) := by decide +kernel
theorem dX4_standsAt_47 : decode cX4_standsAt 47 = .ok (.lcmp, 1) := by decide +kernel
theorem dX4_standsAt_48 : decode cX4_standsAt 48 = .ok (.ifCond .eq 5, 3) := by decide +kernel
theorem dX4_standsAt_51 : decode cX4_standsAt 51 = .ok (.iconst 0, 1) := by decide +kernel
theorem dX4_standsAt_52 : decode cX4_standsAt 52 = .ok (.ireturn, 1) := by decide +kernel
theorem dX4_standsAt_53 : decode cX4_standsAt 53 = .ok (.iinc 3 1, 3) := by decide +kernel
theorem dX4_standsAt_56 : decode cX4_standsAt 56 = .ok (.goto (-54), 3) := by decide +kernel
theorem dX4_standsAt_59 : decode cX4_standsAt 59 = .ok (.aload_n 1, 1) := by decide +kernel
theorem dX4_standsAt_60 : decode cX4_standsAt 60 = .ok (.aload_n 0, 1) := by decide +kernel
theorem dX4_standsAt_61 : decode cX4_standsAt 61 = .ok (.getfield 30, 3) := by decide +kernel
theorem dX4_standsAt_64 : decode cX4_standsAt 64 = .ok (.getfield 69, 3) := by decide +kernel
theorem dX4_standsAt_67 : decode cX4_standsAt 67 = .ok (.iload_n 2, 1) := by decide +kernel
theorem dX4_standsAt_68 : decode cX4_standsAt 68 = .ok (.aload_n 0, 1) := by decide +kernel
theorem dX4_standsAt_69 : decode cX4_standsAt 69 = .ok (.getfield 9, 3) := by decide +kernel
theorem dX4_standsAt_72 : decode cX4_standsAt 72 = .ok (.invokevirtual 84, 3) := by decide +kernel
theorem dX4_standsAt_75 : decode cX4_standsAt 75 = .ok (.iconst 0, 1) := by decide +kernel
theorem dX4_standsAt_76 : decode cX4_standsAt 76 = .ok (.istore_n 3, 1) := by decide +kernel
theorem dX4_standsAt_77 : decode cX4_standsAt 77 = .ok (.iload_n 3, 1) := by decide +kernel
theorem dX4_standsAt_78 : decode cX4_standsAt 78 = .ok (.aload_n 1, 1) := by decide +kernel
theorem dX4_standsAt_79 : decode cX4_standsAt 79 = .ok (.getfield 131, 3) := by decide +kernel
theorem dX4_standsAt_82 : decode cX4_standsAt 82 = .ok (.if_icmp .ge 29, 3) := by decide +kernel
theorem dX4_standsAt_85 : decode cX4_standsAt 85 = .ok (.aload_n 1, 1) := by decide +kernel
theorem dX4_standsAt_86 : decode cX4_standsAt 86 = .ok (.getfield 134, 3) := by decide +kernel
theorem dX4_standsAt_89 : decode cX4_standsAt 89 = .ok (.iload_n 3, 1) := by decide +kernel
theorem dX4_standsAt_90 : decode cX4_standsAt 90 = .ok (.aaload, 1) := by decide +kernel
theorem dX4_standsAt_91 : decode cX4_standsAt 91 = .ok (.aload_n 0, 1) := by decide +kernel
theorem dX4_standsAt_92 : decode cX4_standsAt 92 = .ok (.getfield 9, 3) := by decide +kernel
theorem dX4_standsAt_95 : decode cX4_standsAt 95 = .ok (.iload_n 3, 1) := by decide +kernel
theorem dX4_standsAt_96 : decode cX4_standsAt 96 = .ok (.laload, 1) := by decide +kernel
theorem dX4_standsAt_97 : decode cX4_standsAt 97 = .ok (.invokevirtual 138, 3) := by decide +kernel
theorem dX4_standsAt_100 : decode cX4_standsAt 100 = .ok (.ifCond .ne 5, 3) := by decide +kernel
theorem dX4_standsAt_103 : decode cX4_standsAt 103 = .ok (.iconst 0, 1) := by decide +kernel
theorem dX4_standsAt_104 : decode cX4_standsAt 104 = .ok (.ireturn, 1) := by decide +kernel
theorem dX4_standsAt_105 : decode cX4_standsAt 105 = .ok (.iinc 3 1, 3) := by decide +kernel
theorem dX4_standsAt_108 : decode cX4_standsAt 108 = .ok (.goto (-31), 3) := by decide +kernel
theorem dX4_standsAt_111 : decode cX4_standsAt 111 = .ok (.iconst 1, 1) := by decide +kernel
theorem dX4_standsAt_112 : decode cX4_standsAt 112 = .ok (.ireturn, 1) := by decide +kernel
theorem dX4_bestFor_0 : decode cX4_bestFor 0 = .ok (.iconst (-1), 1) := by decide +kernel
theorem dX4_bestFor_1 : decode cX4_bestFor 1 = .ok (.istore_n 2, 1) := by decide +kernel
theorem dX4_bestFor_2 : decode cX4_bestFor 2 = .ok (.iconst (-1), 1) := by decide +kernel
theorem dX4_bestFor_3 : decode cX4_bestFor 3 = .ok (.istore_n 3, 1) := by decide +kernel
theorem dX4_bestFor_4 : decode cX4_bestFor 4 = .ok (.iconst 0, 1) := by decide +kernel
theorem dX4_bestFor_5 : decode cX4_bestFor 5 = .ok (.istore 4, 2) := by decide +kernel
theorem dX4_bestFor_7 : decode cX4_bestFor 7 = .ok (.iload 4, 2) := by decide +kernel
theorem dX4_bestFor_9 : decode cX4_bestFor 9 = .ok (.aload_n 0, 1) := by decide +kernel
theorem dX4_bestFor_10 : decode cX4_bestFor 10 = .ok (.getfield 26, 3) := by decide +kernel
theorem dX4_bestFor_13 : decode cX4_bestFor 13 = .ok (.getfield 112, 3) := by decide +kernel
theorem dX4_bestFor_16 : decode cX4_bestFor 16 = .ok (.if_icmp .ge 49, 3) := by decide +kernel
theorem dX4_bestFor_19 : decode cX4_bestFor 19 = .ok (.aload_n 0, 1) := by decide +kernel
theorem dX4_bestFor_20 : decode cX4_bestFor 20 = .ok (.getfield 26, 3) := by decide +kernel
theorem dX4_bestFor_23 : decode cX4_bestFor 23 = .ok (.getfield 78, 3) := by decide +kernel
theorem dX4_bestFor_26 : decode cX4_bestFor 26 = .ok (.iload 4, 2) := by decide +kernel
theorem dX4_bestFor_28 : decode cX4_bestFor 28 = .ok (.aaload, 1) := by decide +kernel
theorem dX4_bestFor_29 : decode cX4_bestFor 29 = .ok (.astore 5, 2) := by decide +kernel
theorem dX4_bestFor_31 : decode cX4_bestFor 31 = .ok (.aload 5, 2) := by decide +kernel
theorem dX4_bestFor_33 : decode cX4_bestFor 33 = .ok (.getfield 115, 3) := by decide +kernel
theorem dX4_bestFor_36 : decode cX4_bestFor 36 = .ok (.iload_n 3, 1) := by decide +kernel
theorem dX4_bestFor_37 : decode cX4_bestFor 37 = .ok (.if_icmp .le 22, 3) := by decide +kernel
theorem dX4_bestFor_40 : decode cX4_bestFor 40 = .ok (.aload_n 0, 1) := by decide +kernel
theorem dX4_bestFor_41 : decode cX4_bestFor 41 = .ok (.aload 5, 2) := by decide +kernel
theorem dX4_bestFor_43 : decode cX4_bestFor 43 = .ok (.iload_n 1, 1) := by decide +kernel
theorem dX4_bestFor_44 : decode cX4_bestFor 44 = .ok (.invokevirtual 118, 3) := by decide +kernel
theorem dX4_bestFor_47 : decode cX4_bestFor 47 = .ok (.ifCond .eq 12, 3) := by decide +kernel
theorem dX4_bestFor_50 : decode cX4_bestFor 50 = .ok (.iload 4, 2) := by decide +kernel
theorem dX4_bestFor_52 : decode cX4_bestFor 52 = .ok (.istore_n 2, 1) := by decide +kernel
theorem dX4_bestFor_53 : decode cX4_bestFor 53 = .ok (.aload 5, 2) := by decide +kernel
theorem dX4_bestFor_55 : decode cX4_bestFor 55 = .ok (.getfield 115, 3) := by decide +kernel
theorem dX4_bestFor_58 : decode cX4_bestFor 58 = .ok (.istore_n 3, 1) := by decide +kernel
theorem dX4_bestFor_59 : decode cX4_bestFor 59 = .ok (.iinc 4 1, 3) := by decide +kernel
theorem dX4_bestFor_62 : decode cX4_bestFor 62 = .ok (.goto (-55), 3) := by decide +kernel
theorem dX4_bestFor_65 : decode cX4_bestFor 65 = .ok (.iload_n 2, 1) := by decide +kernel
theorem dX4_bestFor_66 : decode cX4_bestFor 66 = .ok (.ireturn, 1) := by decide +kernel
