theorem dX8_readLine_0 : decode cX8_readLine 0 = .ok (.aload_n 0, 1) := by decide +kernel
theorem dX8_readLine_1 : decode cX8_readLine 1 = .ok (.getfield 29, 3) := by decide +kernel
theorem dX8_readLine_4 : decode cX8_readLine 4 = .ok (.getfield 111, 3) := by decide +kernel
theorem dX8_readLine_7 : decode cX8_readLine 7 = .ok (.istore_n 1, 1) := by decide +kernel
theorem dX8_readLine_8 : decode cX8_readLine 8 = .ok (.aload_n 0, 1) := by decide +kernel
theorem dX8_readLine_9 : decode cX8_readLine 9 = .ok (.getfield 29, 3) := by decide +kernel
theorem dX8_readLine_12 : decode cX8_readLine 12 = .ok (.invokevirtual 114, 3) := by decide +kernel
theorem dX8_readLine_15 : decode cX8_readLine 15 = .ok (.ifCond .eq 22, 3) := by decide +kernel
theorem dX8_readLine_18 : decode cX8_readLine 18 = .ok (.aload_n 0, 1) := by decide +kernel
theorem dX8_readLine_19 : decode cX8_readLine 19 = .ok (.getfield 39, 3) := by decide +kernel
theorem dX8_readLine_22 : decode cX8_readLine 22 = .ok (.iload_n 1, 1) := by decide +kernel
theorem dX8_readLine_23 : decode cX8_readLine 23 = .ok (.iconst 1, 1) := by decide +kernel
theorem dX8_readLine_24 : decode cX8_readLine 24 = .ok (.iadd, 1) := by decide +kernel
theorem dX8_readLine_25 : decode cX8_readLine 25 = .ok (.bipush 58, 2) := by decide +kernel
theorem dX8_readLine_27 : decode cX8_readLine 27 = .ok (.invokevirtual 117, 3) := by decide +kernel
theorem dX8_readLine_30 : decode cX8_readLine 30 = .ok (.ifCond .eq 7, 3) := by decide +kernel
theorem dX8_readLine_33 : decode cX8_readLine 33 = .ok (.iconst 1, 1) := by decide +kernel
theorem dX8_readLine_34 : decode cX8_readLine 34 = .ok (.goto 4, 3) := by decide +kernel
theorem dX8_readLine_37 : decode cX8_readLine 37 = .ok (.iconst 0, 1) := by decide +kernel
theorem dX8_readLine_38 : decode cX8_readLine 38 = .ok (.istore_n 2, 1) := by decide +kernel
theorem dX8_readLine_39 : decode cX8_readLine 39 = .ok (.iload_n 2, 1) := by decide +kernel
theorem dX8_readLine_40 : decode cX8_readLine 40 = .ok (.ifCond .eq 21, 3) := by decide +kernel
theorem dX8_readLine_43 : decode cX8_readLine 43 = .ok (.aload_n 0, 1) := by decide +kernel
theorem dX8_readLine_44 : decode cX8_readLine 44 = .ok (.iload_n 1, 1) := by decide +kernel
theorem dX8_readLine_45 : decode cX8_readLine 45 = .ok (.invokevirtual 121, 3) := by decide +kernel
theorem dX8_readLine_48 : decode cX8_readLine 48 = .ok (.ifCond .lt 13, 3) := by decide +kernel
theorem dX8_readLine_51 : decode cX8_readLine 51 = .ok (.aload_n 0, 1) := by decide +kernel
theorem dX8_readLine_52 : decode cX8_readLine 52 = .ok (.getfield 29, 3) := by decide +kernel
theorem dX8_readLine_55 : decode cX8_readLine 55 = .ok (.iconst 2, 1) := by decide +kernel
theorem dX8_readLine_56 : decode cX8_readLine 56 = .ok (.invokevirtual 125, 3) := by decide +kernel
theorem dX8_readLine_59 : decode cX8_readLine 59 = .ok (.pop, 1) := by decide +kernel
theorem dX8_readLine_60 : decode cX8_readLine 60 = .ok (.return_, 1) := by decide +kernel
theorem dX8_readLine_61 : decode cX8_readLine 61 = .ok (.iload_n 2, 1) := by decide +kernel
theorem dX8_readLine_62 : decode cX8_readLine 62 = .ok (.ifCond .eq 9, 3) := by decide +kernel
theorem dX8_readLine_65 : decode cX8_readLine 65 = .ok (.iload_n 1, 1) := by decide +kernel
theorem dX8_readLine_66 : decode cX8_readLine 66 = .ok (.iconst 2, 1) := by decide +kernel
theorem dX8_readLine_67 : decode cX8_readLine 67 = .ok (.iadd, 1) := by decide +kernel
theorem dX8_readLine_68 : decode cX8_readLine 68 = .ok (.goto 4, 3) := by decide +kernel
theorem dX8_readLine_71 : decode cX8_readLine 71 = .ok (.iload_n 1, 1) := by decide +kernel
theorem dX8_readLine_72 : decode cX8_readLine 72 = .ok (.istore_n 3, 1) := by decide +kernel
theorem dX8_readLine_73 : decode cX8_readLine 73 = .ok (.aload_n 0, 1) := by decide +kernel
theorem dX8_readLine_74 : decode cX8_readLine 74 = .ok (.getfield 29, 3) := by decide +kernel
theorem dX8_readLine_77 : decode cX8_readLine 77 = .ok (.iload_n 3, 1) := by decide +kernel
theorem dX8_readLine_78 : decode cX8_readLine 78 = .ok (.putfield 111, 3) := by decide +kernel
theorem dX8_readLine_81 : decode cX8_readLine 81 = .ok (.aload_n 0, 1) := by decide +kernel
theorem dX8_readLine_82 : decode cX8_readLine 82 = .ok (.iload_n 3, 1) := by decide +kernel
theorem dX8_readLine_83 : decode cX8_readLine 83 = .ok (.invokevirtual 129, 3) := by decide +kernel
theorem dX8_readLine_86 : decode cX8_readLine 86 = .ok (.istore 4, 2) := by decide +kernel
theorem dX8_readLine_88 : decode cX8_readLine 88 = .ok (.iload_n 2, 1) := by decide +kernel
theorem dX8_readLine_89 : decode cX8_readLine 89 = .ok (.ifCond .ne 8, 3) := by decide +kernel
theorem dX8_readLine_92 : decode cX8_readLine 92 = .ok (.iload 4, 2) := by decide +kernel
theorem dX8_readLine_94 : decode cX8_readLine 94 = .ok (.ifCond .eq 42, 3) := by decide +kernel
theorem dX8_readLine_97 : decode cX8_readLine 97 = .ok (.new 91, 3) := by decide +kernel
theorem dX8_readLine_100 : decode cX8_readLine 100 = .ok (.dup, 1) := by decide +kernel
theorem dX8_readLine_101 : decode cX8_readLine 101 = .ok (.iload 4, 2) := by decide +kernel
theorem dX8_readLine_103 : decode cX8_readLine 103 = .ok (.iload_n 1, 1) := by decide +kernel
theorem dX8_readLine_104 : decode cX8_readLine 104 = .ok (.iload_n 3, 1) := by decide +kernel
theorem dX8_readLine_105 : decode cX8_readLine 105 = .ok (.invokespecial 132, 3) := by decide +kernel
theorem dX8_readLine_108 : decode cX8_readLine 108 = .ok (.astore 5, 2) := by decide +kernel
theorem dX8_readLine_110 : decode cX8_readLine 110 = .ok (.aload_n 0, 1) := by decide +kernel
theorem dX8_readLine_111 : decode cX8_readLine 111 = .ok (.getfield 12, 3) := by decide +kernel
theorem dX8_readLine_114 : decode cX8_readLine 114 = .ok (.aload 5, 2) := by decide +kernel
theorem dX8_readLine_116 : decode cX8_readLine 116 = .ok (.invokevirtual 135, 3) := by decide +kernel
theorem dX8_readLine_119 : decode cX8_readLine 119 = .ok (.pop, 1) := by decide +kernel
theorem dX8_readLine_120 : decode cX8_readLine 120 = .ok (.iload_n 2, 1) := by decide +kernel
theorem dX8_readLine_121 : decode cX8_readLine 121 = .ok (.ifCond .eq 9, 3) := by decide +kernel
theorem dX8_readLine_124 : decode cX8_readLine 124 = .ok (.aload_n 0, 1) := by decide +kernel
theorem dX8_readLine_125 : decode cX8_readLine 125 = .ok (.aload 5, 2) := by decide +kernel
theorem dX8_readLine_127 : decode cX8_readLine 127 = .ok (.invokevirtual 139, 3) := by decide +kernel
theorem dX8_readLine_130 : decode cX8_readLine 130 = .ok (.aload_n 0, 1) := by decide +kernel
theorem dX8_readLine_131 : decode cX8_readLine 131 = .ok (.aload 5, 2) := by decide +kernel
theorem dX8_readLine_133 : decode cX8_readLine 133 = .ok (.invokevirtual 142, 3) := by decide +kernel
theorem dX8_readLine_136 : decode cX8_readLine 136 = .ok (.aload_n 0, 1) := by decide +kernel
theorem dX8_readLine_137 : decode cX8_readLine 137 = .ok (.getfield 29, 3) := by decide +kernel
theorem dX8_readLine_140 : decode cX8_readLine 140 = .ok (.invokevirtual 84, 3) := by decide +kernel
theorem dX8_readLine_143 : decode cX8_readLine 143 = .ok (.ifCond .eq 4, 3) := by decide +kernel
theorem dX8_readLine_146 : decode cX8_readLine 146 = .ok (.return_, 1) := by decide +kernel
theorem dX8_readLine_147 : decode cX8_readLine 147 = .ok (.aload_n 0, 1) := by decide +kernel
theorem dX8_readLine_148 : decode cX8_readLine 148 = .ok (.getfield 39, 3) := by decide +kernel
theorem dX8_readLine_151 : decode cX8_readLine 151 = .ok (.aload_n 0, 1) := by decide +kernel
theorem dX8_readLine_152 : decode cX8_readLine 152 = .ok (.getfield 29, 3) := by decide +kernel
theorem dX8_readLine_155 : decode cX8_readLine 155 = .ok (.getfield 111, 3) := by decide +kernel
theorem dX8_readLine_158 : decode cX8_readLine 158 = .ok (.invokevirtual 145, 3) := by decide +kernel
theorem dX8_readLine_161 : decode cX8_readLine 161 = .ok (.ifCond .ne 13, 3) := by decide +kernel
theorem dX8_readLine_164 : decode cX8_readLine 164 = .ok (.aload_n 0, 1) := by decide +kernel
theorem dX8_readLine_165 : decode cX8_readLine 165 = .ok (.getfield 29, 3) := by decide +kernel
theorem dX8_readLine_168 : decode cX8_readLine 168 = .ok (.iconst 1, 1) := by decide +kernel
theorem dX8_readLine_169 : decode cX8_readLine 169 = .ok (.invokevirtual 125, 3) := by decide +kernel
theorem dX8_readLine_172 : decode cX8_readLine 172 = .ok (.pop, 1) := by decide +kernel
theorem dX8_readLine_173 : decode cX8_readLine 173 = .ok (.return_, 1) := by decide +kernel
theorem dX8_readLine_174 : decode cX8_readLine 174 = .ok (.aload_n 0, 1) := by decide +kernel
theorem dX8_readLine_175 : decode cX8_readLine 175 = .ok (.getfield 29, 3) := by decide +kernel
theorem dX8_readLine_178 : decode cX8_readLine 178 = .ok (.dup, 1) := by decide +kernel
theorem dX8_readLine_179 : decode cX8_readLine 179 = .ok (.getfield 111, 3) := by decide +kernel
theorem dX8_readLine_182 : decode cX8_readLine 182 = .ok (.iconst 1, 1) := by decide +kernel
theorem dX8_readLine_183 : decode cX8_readLine 183 = .ok (.iadd, 1) := by decide +kernel
theorem dX8_readLine_184 : decode cX8_readLine 184 = .ok (.putfield 111, 3) := by decide +kernel
theorem dX8_readLine_187 : decode cX8_readLine 187 = .ok (.return_, 1) := by decide +kernel
theorem dX8_read_0 : decode cX8_read 0 = .ok (.aload_n 0, 1) := by decide +kernel
theorem dX8_read_1 : decode cX8_read 1 = .ok (.getfield 29, 3) := by decide +kernel
theorem dX8_read_4 : decode cX8_read 4 = .ok (.iconst 1, 1) := by decide +kernel
theorem dX8_read_5 : decode cX8_read 5 = .ok (.invokevirtual 64, 3) := by decide +kernel
theorem dX8_read_8 : decode cX8_read 8 = .ok (.iconst 0, 1) := by decide +kernel
theorem dX8_read_9 : decode cX8_read 9 = .ok (.istore_n 1, 1) := by decide +kernel
theorem dX8_read_10 : decode cX8_read 10 = .ok (.iload_n 1, 1) := by decide +kernel
theorem dX8_read_11 : decode cX8_read 11 = .ok (.aload_n 0, 1) := by decide +kernel
theorem dX8_read_12 : decode cX8_read 12 = .ok (.getfield 39, 3) := by decide +kernel
theorem dX8_read_15 : decode cX8_read 15 = .ok (.getfield 68, 3) := by decide +kernel
theorem dX8_read_18 : decode cX8_read 18 = .ok (.if_icmp .gt 23, 3) := by decide +kernel
theorem dX8_read_21 : decode cX8_read 21 = .ok (.aload_n 0, 1) := by decide +kernel
theorem dX8_read_22 : decode cX8_read 22 = .ok (.getfield 29, 3) := by decide +kernel
theorem dX8_read_25 : decode cX8_read 25 = .ok (.invokevirtual 73, 3) := by decide +kernel
theorem dX8_read_28 : decode cX8_read 28 = .ok (.ifCond .ne 13, 3) := by decide +kernel
theorem dX8_read_31 : decode cX8_read 31 = .ok (.aload_n 0, 1) := by decide +kernel
theorem dX8_read_32 : decode cX8_read 32 = .ok (.invokevirtual 77, 3) := by decide +kernel
theorem dX8_read_35 : decode cX8_read 35 = .ok (.iinc 1 1, 3) := by decide +kernel
theorem dX8_read_38 : decode cX8_read 38 = .ok (.goto (-28), 3) := by decide +kernel
theorem dX8_read_41 : decode cX8_read 41 = .ok (.iconst 0, 1) := by decide +kernel
theorem dX8_read_42 : decode cX8_read 42 = .ok (.istore_n 1, 1) := by decide +kernel
theorem dX8_read_43 : decode cX8_read 43 = .ok (.iload_n 1, 1) := by decide +kernel
theorem dX8_read_44 : decode cX8_read 44 = .ok (.aload_n 0, 1) := by decide +kernel
theorem dX8_read_45 : decode cX8_read 45 = .ok (.getfield 12, 3) := by decide +kernel
theorem dX8_read_48 : decode cX8_read 48 = .ok (.invokevirtual 80, 3) := by decide +kernel
theorem dX8_read_51 : decode cX8_read 51 = .ok (.if_icmp .ge 65, 3) := by decide +kernel
theorem dX8_read_54 : decode cX8_read 54 = .ok (.aload_n 0, 1) := by decide +kernel
theorem dX8_read_55 : decode cX8_read 55 = .ok (.getfield 29, 3) := by decide +kernel
theorem dX8_read_58 : decode cX8_read 58 = .ok (.invokevirtual 84, 3) := by decide +kernel
theorem dX8_read_61 : decode cX8_read 61 = .ok (.ifCond .ne 55, 3) := by decide +kernel
theorem dX8_read_64 : decode cX8_read 64 = .ok (.aload_n 0, 1) := by decide +kernel
theorem dX8_read_65 : decode cX8_read 65 = .ok (.getfield 12, 3) := by decide +kernel
theorem dX8_read_68 : decode cX8_read 68 = .ok (.iload_n 1, 1) := by decide +kernel
theorem dX8_read_69 : decode cX8_read 69 = .ok (.invokevirtual 87, 3) := by decide +kernel
theorem dX8_read_72 : decode cX8_read 72 = .ok (.checkcast 91, 3) := by decide +kernel
theorem dX8_read_75 : decode cX8_read 75 = .ok (.astore_n 2, 1) := by decide +kernel
theorem dX8_read_76 : decode cX8_read 76 = .ok (.aload_n 2, 1) := by decide +kernel
theorem dX8_read_77 : decode cX8_read 77 = .ok (.getfield 93, 3) := by decide +kernel
theorem dX8_read_80 : decode cX8_read 80 = .ok (.iconst 1, 1) := by decide +kernel
theorem dX8_read_81 : decode cX8_read 81 = .ok (.if_icmp .ne 29, 3) := by decide +kernel
theorem dX8_read_84 : decode cX8_read 84 = .ok (.aload_n 0, 1) := by decide +kernel
theorem dX8_read_85 : decode cX8_read 85 = .ok (.aload_n 2, 1) := by decide +kernel
theorem dX8_read_86 : decode cX8_read 86 = .ok (.invokevirtual 96, 3) := by decide +kernel
theorem dX8_read_89 : decode cX8_read 89 = .ok (.aload_n 0, 1) := by decide +kernel
theorem dX8_read_90 : decode cX8_read 90 = .ok (.aload_n 2, 1) := by decide +kernel
theorem dX8_read_91 : decode cX8_read 91 = .ok (.invokevirtual 100, 3) := by decide +kernel
theorem dX8_read_94 : decode cX8_read 94 = .ok (.ifCond .ne 16, 3) := by decide +kernel
theorem dX8_read_97 : decode cX8_read 97 = .ok (.aload_n 0, 1) := by decide +kernel
theorem dX8_read_98 : decode cX8_read 98 = .ok (.getfield 29, 3) := by decide +kernel
theorem dX8_read_101 : decode cX8_read 101 = .ok (.bipush 6, 2) := by decide +kernel
theorem dX8_read_103 : decode cX8_read 103 = .ok (.aload_n 2, 1) := by decide +kernel
theorem dX8_read_104 : decode cX8_read 104 = .ok (.getfield 104, 3) := by decide +kernel
theorem dX8_read_107 : decode cX8_read 107 = .ok (.invokevirtual 107, 3) := by decide +kernel
theorem dX8_read_110 : decode cX8_read 110 = .ok (.iinc 1 1, 3) := by decide +kernel
theorem dX8_read_113 : decode cX8_read 113 = .ok (.goto (-70), 3) := by decide +kernel
theorem dX8_read_116 : decode cX8_read 116 = .ok (.aload_n 0, 1) := by decide +kernel
theorem dX8_read_117 : decode cX8_read 117 = .ok (.getfield 29, 3) := by decide +kernel
theorem dX8_read_120 : decode cX8_read 120 = .ok (.invokevirtual 84, 3) := by decide +kernel
theorem dX8_read_123 : decode cX8_read 123 = .ok (.ifCond .ne 7, 3) := by decide +kernel
theorem dX8_read_126 : decode cX8_read 126 = .ok (.iconst 1, 1) := by decide +kernel
theorem dX8_read_127 : decode cX8_read 127 = .ok (.goto 4, 3) := by decide +kernel
theorem dX8_read_130 : decode cX8_read 130 = .ok (.iconst 0, 1) := by decide +kernel
theorem dX8_read_131 : decode cX8_read 131 = .ok (.ireturn, 1) := by decide +kernel
theorem dX8_operandAt_0 : decode cX8_operandAt 0 = .ok (.aload_n 1, 1) := by decide +kernel
theorem dX8_operandAt_1 : decode cX8_operandAt 1 = .ok (.getfield 251, 3) := by decide +kernel
theorem dX8_operandAt_4 : decode cX8_operandAt 4 = .ok (.ifCond .ne 14, 3) := by decide +kernel
theorem dX8_operandAt_7 : decode cX8_operandAt 7 = .ok (.aload_n 1, 1) := by decide +kernel
theorem dX8_operandAt_8 : decode cX8_operandAt 8 = .ok (.aload_n 0, 1) := by decide +kernel
theorem dX8_operandAt_9 : decode cX8_operandAt 9 = .ok (.getfield 39, 3) := by decide +kernel
theorem dX8_operandAt_12 : decode cX8_operandAt 12 = .ok (.iload_n 2, 1) := by decide +kernel
theorem dX8_operandAt_13 : decode cX8_operandAt 13 = .ok (.invokevirtual 254, 3) := by decide +kernel
theorem dX8_operandAt_16 : decode cX8_operandAt 16 = .ok (.i2l, 1) := by decide +kernel
theorem dX8_operandAt_17 : decode cX8_operandAt 17 = .ok (.lreturn, 1) := by decide +kernel
theorem dX8_operandAt_18 : decode cX8_operandAt 18 = .ok (.aload_n 1, 1) := by decide +kernel
theorem dX8_operandAt_19 : decode cX8_operandAt 19 = .ok (.getfield 251, 3) := by decide +kernel
theorem dX8_operandAt_22 : decode cX8_operandAt 22 = .ok (.iconst 4, 1) := by decide +kernel
theorem dX8_operandAt_23 : decode cX8_operandAt 23 = .ok (.if_icmp .ne 14, 3) := by decide +kernel
theorem dX8_operandAt_26 : decode cX8_operandAt 26 = .ok (.aload_n 1, 1) := by decide +kernel
theorem dX8_operandAt_27 : decode cX8_operandAt 27 = .ok (.aload_n 0, 1) := by decide +kernel
theorem dX8_operandAt_28 : decode cX8_operandAt 28 = .ok (.getfield 39, 3) := by decide +kernel
theorem dX8_operandAt_31 : decode cX8_operandAt 31 = .ok (.iload_n 2, 1) := by decide +kernel
theorem dX8_operandAt_32 : decode cX8_operandAt 32 = .ok (.invokevirtual 257, 3) := by decide +kernel
theorem dX8_operandAt_35 : decode cX8_operandAt 35 = .ok (.i2l, 1) := by decide +kernel
theorem dX8_operandAt_36 : decode cX8_operandAt 36 = .ok (.lreturn, 1) := by decide +kernel
theorem dX8_operandAt_37 : decode cX8_operandAt 37 = .ok (.aload_n 0, 1) := by decide +kernel
theorem dX8_operandAt_38 : decode cX8_operandAt 38 = .ok (.getfield 39, 3) := by decide +kernel
theorem dX8_operandAt_41 : decode cX8_operandAt 41 = .ok (.getfield 148, 3) := by decide +kernel
theorem dX8_operandAt_44 : decode cX8_operandAt 44 = .ok (.iload_n 2, 1) := by decide +kernel
theorem dX8_operandAt_45 : decode cX8_operandAt 45 = .ok (.baload, 1) := by decide +kernel
theorem dX8_operandAt_46 : decode cX8_operandAt 46 = .ok (.iconst 2, 1) := by decide +kernel
theorem dX8_operandAt_47 : decode cX8_operandAt 47 = .ok (.if_icmp .ne 13, 3) := by decide +kernel
theorem dX8_operandAt_50 : decode cX8_operandAt 50 = .ok (.aload_n 0, 1) := by decide +kernel
theorem dX8_operandAt_51 : decode cX8_operandAt 51 = .ok (.getfield 39, 3) := by decide +kernel
theorem dX8_operandAt_54 : decode cX8_operandAt 54 = .ok (.getfield 202, 3) := by decide +kernel
theorem dX8_operandAt_57 : decode cX8_operandAt 57 = .ok (.iload_n 2, 1) := by decide +kernel
theorem dX8_operandAt_58 : decode cX8_operandAt 58 = .ok (.laload, 1) := by decide +kernel
theorem dX8_operandAt_59 : decode cX8_operandAt 59 = .ok (.lreturn, 1) := by decide +kernel
theorem dX8_operandAt_60 : decode cX8_operandAt 60 = .ok (.aload_n 0, 1) := by decide +kernel
theorem dX8_operandAt_61 : decode cX8_operandAt 61 = .ok (.getfield 39, 3) := by decide +kernel
theorem dX8_operandAt_64 : decode cX8_operandAt 64 = .ok (.getfield 148, 3) := by decide +kernel
theorem dX8_operandAt_67 : decode cX8_operandAt 67 = .ok (.iload_n 2, 1) := by decide +kernel
theorem dX8_operandAt_68 : decode cX8_operandAt 68 = .ok (.baload, 1) := by decide +kernel
theorem dX8_operandAt_69 : decode cX8_operandAt 69 = .ok (.iconst 3, 1) := by decide +kernel
theorem dX8_operandAt_70 : decode cX8_operandAt 70 = .ok (.if_icmp .ne 16, 3) := by decide +kernel
theorem dX8_operandAt_73 : decode cX8_operandAt 73 = .ok (.aload_n 0, 1) := by decide +kernel
theorem dX8_operandAt_74 : decode cX8_operandAt 74 = .ok (.getfield 39, 3) := by decide +kernel
theorem dX8_operandAt_77 : decode cX8_operandAt 77 = .ok (.getfield 202, 3) := by decide +kernel
theorem dX8_operandAt_80 : decode cX8_operandAt 80 = .ok (.iload_n 2, 1) := by decide +kernel
theorem dX8_operandAt_81 : decode cX8_operandAt 81 = .ok (.iconst 1, 1) := by decide +kernel
theorem dX8_operandAt_82 : decode cX8_operandAt 82 = .ok (.iadd, 1) := by decide +kernel
theorem dX8_operandAt_83 : decode cX8_operandAt 83 = .ok (.laload, 1) := by decide +kernel
theorem dX8_operandAt_84 : decode cX8_operandAt 84 = .ok (.lneg, 1) := by decide +kernel
theorem dX8_operandAt_85 : decode cX8_operandAt 85 = .ok (.lreturn, 1) := by decide +kernel
theorem dX8_operandAt_86 : decode cX8_operandAt 86 = .ok (.aload_n 0, 1) := by decide +kernel
theorem dX8_operandAt_87 : decode cX8_operandAt 87 = .ok (.getfield 39, 3) := by decide +kernel
theorem dX8_operandAt_90 : decode cX8_operandAt 90 = .ok (.getfield 202, 3) := by decide +kernel
theorem dX8_operandAt_93 : decode cX8_operandAt 93 = .ok (.iload_n 2, 1) := by decide +kernel
theorem dX8_operandAt_94 : decode cX8_operandAt 94 = .ok (.laload, 1) := by decide +kernel
theorem dX8_operandAt_95 : decode cX8_operandAt 95 = .ok (.l2i, 1) := by decide +kernel
theorem dX8_operandAt_96 : decode cX8_operandAt 96 = .ok (.istore_n 3, 1) := by decide +kernel
theorem dX8_operandAt_97 : decode cX8_operandAt 97 = .ok (.iload_n 3, 1) := by decide +kernel
theorem dX8_operandAt_98 : decode cX8_operandAt 98 = .ok (.ifCond .lt 32, 3) := by decide +kernel
theorem dX8_operandAt_101 : decode cX8_operandAt 101 = .ok (.iload_n 3, 1) := by decide +kernel
theorem dX8_operandAt_102 : decode cX8_operandAt 102 = .ok (.aload_n 0, 1) := by decide +kernel
theorem dX8_operandAt_103 : decode cX8_operandAt 103 = .ok (.getfield 18, 3) := by decide +kernel
theorem dX8_operandAt_106 : decode cX8_operandAt 106 = .ok (.invokevirtual 80, 3) := by decide +kernel
theorem dX8_operandAt_109 : decode cX8_operandAt 109 = .ok (.if_icmp .ge 21, 3) := by decide +kernel
theorem dX8_operandAt_112 : decode cX8_operandAt 112 = .ok (.aload_n 0, 1) := by decide +kernel
theorem dX8_operandAt_113 : decode cX8_operandAt 113 = .ok (.getfield 18, 3) := by decide +kernel
theorem dX8_operandAt_116 : decode cX8_operandAt 116 = .ok (.iload_n 3, 1) := by decide +kernel
theorem dX8_operandAt_117 : decode cX8_operandAt 117 = .ok (.invokevirtual 87, 3) := by decide +kernel
theorem dX8_operandAt_120 : decode cX8_operandAt 120 = .ok (.checkcast 91, 3) := by decide +kernel
theorem dX8_operandAt_123 : decode cX8_operandAt 123 = .ok (.getfield 263, 3) := by decide +kernel
theorem dX8_operandAt_126 : decode cX8_operandAt 126 = .ok (.i2l, 1) := by decide +kernel
theorem dX8_operandAt_127 : decode cX8_operandAt 127 = .ok (.goto 4, 3) := by decide +kernel
theorem dX8_operandAt_130 : decode cX8_operandAt 130 = .ok (.lconst 0, 1) := by decide +kernel
theorem dX8_operandAt_131 : decode cX8_operandAt 131 = .ok (.lstore 4, 2) := by decide +kernel
theorem dX8_operandAt_133 : decode cX8_operandAt 133 = .ok (.aload_n 0, 1) := by decide +kernel
theorem dX8_operandAt_134 : decode cX8_operandAt 134 = .ok (.iload_n 2, 1) := by decide +kernel
theorem dX8_operandAt_135 : decode cX8_operandAt 135 = .ok (.invokevirtual 260, 3) := by decide +kernel
theorem dX8_operandAt_138 : decode cX8_operandAt 138 = .ok (.ifCond .ne 6, 3) := by decide +kernel
theorem dX8_operandAt_141 : decode cX8_operandAt 141 = .ok (.lload 4, 2) := by decide +kernel
theorem dX8_operandAt_143 : decode cX8_operandAt 143 = .ok (.lreturn, 1) := by decide +kernel
theorem dX8_operandAt_144 : decode cX8_operandAt 144 = .ok (.aload_n 0, 1) := by decide +kernel
theorem dX8_operandAt_145 : decode cX8_operandAt 145 = .ok (.getfield 39, 3) := by decide +kernel
theorem dX8_operandAt_148 : decode cX8_operandAt 148 = .ok (.getfield 202, 3) := by decide +kernel
theorem dX8_operandAt_151 : decode cX8_operandAt 151 = .ok (.iload_n 2, 1) := by decide +kernel
theorem dX8_operandAt_152 : decode cX8_operandAt 152 = .ok (.iconst 2, 1) := by decide +kernel
theorem dX8_operandAt_153 : decode cX8_operandAt 153 = .ok (.iadd, 1) := by decide +kernel
theorem dX8_operandAt_154 : decode cX8_operandAt 154 = .ok (.laload, 1) := by decide +kernel
theorem dX8_operandAt_155 : decode cX8_operandAt 155 = .ok (.lstore 6, 2) := by decide +kernel
theorem dX8_operandAt_157 : decode cX8_operandAt 157 = .ok (.aload_n 0, 1) := by decide +kernel
theorem dX8_operandAt_158 : decode cX8_operandAt 158 = .ok (.getfield 39, 3) := by decide +kernel
theorem dX8_operandAt_161 : decode cX8_operandAt 161 = .ok (.iload_n 2, 1) := by decide +kernel
theorem dX8_operandAt_162 : decode cX8_operandAt 162 = .ok (.iconst 1, 1) := by decide +kernel
theorem dX8_operandAt_163 : decode cX8_operandAt 163 = .ok (.iadd, 1) := by decide +kernel
theorem dX8_operandAt_164 : decode cX8_operandAt 164 = .ok (.bipush 43, 2) := by decide +kernel
theorem dX8_operandAt_166 : decode cX8_operandAt 166 = .ok (.invokevirtual 117, 3) := by decide +kernel
theorem dX8_operandAt_169 : decode cX8_operandAt 169 = .ok (.ifCond .eq 11, 3) := by decide +kernel
theorem dX8_operandAt_172 : decode cX8_operandAt 172 = .ok (.lload 4, 2) := by decide +kernel
theorem dX8_operandAt_174 : decode cX8_operandAt 174 = .ok (.lload 6, 2) := by decide +kernel
theorem dX8_operandAt_176 : decode cX8_operandAt 176 = .ok (.ladd, 1) := by decide +kernel
theorem dX8_operandAt_177 : decode cX8_operandAt 177 = .ok (.goto 8, 3) := by decide +kernel
theorem dX8_operandAt_180 : decode cX8_operandAt 180 = .ok (.lload 4, 2) := by decide +kernel
theorem dX8_operandAt_182 : decode cX8_operandAt 182 = .ok (.lload 6, 2) := by decide +kernel
theorem dX8_operandAt_184 : decode cX8_operandAt 184 = .ok (.lsub, 1) := by decide +kernel
theorem dX8_operandAt_185 : decode cX8_operandAt 185 = .ok (.lreturn, 1) := by decide +kernel
theorem dX8_giveAddresses_0 : decode cX8_giveAddresses 0 = .ok (.iconst 0, 1) := by decide +kernel
theorem dX8_giveAddresses_1 : decode cX8_giveAddresses 1 = .ok (.istore_n 1, 1) := by decide +kernel
theorem dX8_giveAddresses_2 : decode cX8_giveAddresses 2 = .ok (.iconst 0, 1) := by decide +kernel
theorem dX8_giveAddresses_3 : decode cX8_giveAddresses 3 = .ok (.istore_n 2, 1) := by decide +kernel
theorem dX8_giveAddresses_4 : decode cX8_giveAddresses 4 = .ok (.iload_n 2, 1) := by decide +kernel
theorem dX8_giveAddresses_5 : decode cX8_giveAddresses 5 = .ok (.aload_n 0, 1) := by decide +kernel
theorem dX8_giveAddresses_6 : decode cX8_giveAddresses 6 = .ok (.getfield 12, 3) := by decide +kernel
theorem dX8_giveAddresses_9 : decode cX8_giveAddresses 9 = .ok (.invokevirtual 80, 3) := by decide +kernel
theorem dX8_giveAddresses_12 : decode cX8_giveAddresses 12 = .ok (.if_icmp .ge 84, 3) := by decide +kernel
theorem dX8_giveAddresses_15 : decode cX8_giveAddresses 15 = .ok (.aload_n 0, 1) := by decide +kernel
theorem dX8_giveAddresses_16 : decode cX8_giveAddresses 16 = .ok (.getfield 12, 3) := by decide +kernel
theorem dX8_giveAddresses_19 : decode cX8_giveAddresses 19 = .ok (.iload_n 2, 1) := by decide +kernel
theorem dX8_giveAddresses_20 : decode cX8_giveAddresses 20 = .ok (.invokevirtual 87, 3) := by decide +kernel
theorem dX8_giveAddresses_23 : decode cX8_giveAddresses 23 = .ok (.checkcast 91, 3) := by decide +kernel
theorem dX8_giveAddresses_26 : decode cX8_giveAddresses 26 = .ok (.astore_n 3, 1) := by decide +kernel
theorem dX8_giveAddresses_27 : decode cX8_giveAddresses 27 = .ok (.aload_n 3, 1) := by decide +kernel
theorem dX8_giveAddresses_28 : decode cX8_giveAddresses 28 = .ok (.iload_n 1, 1) := by decide +kernel
theorem dX8_giveAddresses_29 : decode cX8_giveAddresses 29 = .ok (.putfield 263, 3) := by decide +kernel
theorem dX8_giveAddresses_32 : decode cX8_giveAddresses 32 = .ok (.aload_n 3, 1) := by decide +kernel
theorem dX8_giveAddresses_33 : decode cX8_giveAddresses 33 = .ok (.getfield 93, 3) := by decide +kernel
theorem dX8_giveAddresses_36 : decode cX8_giveAddresses 36 = .ok (.iconst 3, 1) := by decide +kernel
theorem dX8_giveAddresses_37 : decode cX8_giveAddresses 37 = .ok (.if_icmp .ne 19, 3) := by decide +kernel
theorem dX8_giveAddresses_40 : decode cX8_giveAddresses 40 = .ok (.aload_n 0, 1) := by decide +kernel
theorem dX8_giveAddresses_41 : decode cX8_giveAddresses 41 = .ok (.getfield 39, 3) := by decide +kernel
theorem dX8_giveAddresses_44 : decode cX8_giveAddresses 44 = .ok (.getfield 202, 3) := by decide +kernel
theorem dX8_giveAddresses_47 : decode cX8_giveAddresses 47 = .ok (.aload_n 3, 1) := by decide +kernel
theorem dX8_giveAddresses_48 : decode cX8_giveAddresses 48 = .ok (.getfield 104, 3) := by decide +kernel
theorem dX8_giveAddresses_51 : decode cX8_giveAddresses 51 = .ok (.iconst 2, 1) := by decide +kernel
theorem dX8_giveAddresses_52 : decode cX8_giveAddresses 52 = .ok (.iadd, 1) := by decide +kernel
theorem dX8_giveAddresses_53 : decode cX8_giveAddresses 53 = .ok (.laload, 1) := by decide +kernel
theorem dX8_giveAddresses_54 : decode cX8_giveAddresses 54 = .ok (.l2i, 1) := by decide +kernel
theorem dX8_giveAddresses_55 : decode cX8_giveAddresses 55 = .ok (.istore_n 1, 1) := by decide +kernel
theorem dX8_giveAddresses_56 : decode cX8_giveAddresses 56 = .ok (.iload_n 1, 1) := by decide +kernel
theorem dX8_giveAddresses_57 : decode cX8_giveAddresses 57 = .ok (.aload_n 3, 1) := by decide +kernel
theorem dX8_giveAddresses_58 : decode cX8_giveAddresses 58 = .ok (.getfield 177, 3) := by decide +kernel
theorem dX8_giveAddresses_61 : decode cX8_giveAddresses 61 = .ok (.iadd, 1) := by decide +kernel
theorem dX8_giveAddresses_62 : decode cX8_giveAddresses 62 = .ok (.istore_n 1, 1) := by decide +kernel
theorem dX8_giveAddresses_63 : decode cX8_giveAddresses 63 = .ok (.aload_n 3, 1) := by decide +kernel
theorem dX8_giveAddresses_64 : decode cX8_giveAddresses 64 = .ok (.getfield 177, 3) := by decide +kernel
theorem dX8_giveAddresses_67 : decode cX8_giveAddresses 67 = .ok (.ifCond .le 23, 3) := by decide +kernel
theorem dX8_giveAddresses_70 : decode cX8_giveAddresses 70 = .ok (.iload_n 1, 1) := by decide +kernel
theorem dX8_giveAddresses_71 : decode cX8_giveAddresses 71 = .ok (.sipush 4096, 3) := by decide +kernel
theorem dX8_giveAddresses_74 : decode cX8_giveAddresses 74 = .ok (.if_icmp .le 16, 3) := by decide +kernel
theorem dX8_giveAddresses_77 : decode cX8_giveAddresses 77 = .ok (.aload_n 0, 1) := by decide +kernel
theorem dX8_giveAddresses_78 : decode cX8_giveAddresses 78 = .ok (.getfield 29, 3) := by decide +kernel
theorem dX8_giveAddresses_81 : decode cX8_giveAddresses 81 = .ok (.iconst 3, 1) := by decide +kernel
theorem dX8_giveAddresses_82 : decode cX8_giveAddresses 82 = .ok (.aload_n 3, 1) := by decide +kernel
theorem dX8_giveAddresses_83 : decode cX8_giveAddresses 83 = .ok (.getfield 104, 3) := by decide +kernel
theorem dX8_giveAddresses_86 : decode cX8_giveAddresses 86 = .ok (.invokevirtual 107, 3) := by decide +kernel
theorem dX8_giveAddresses_89 : decode cX8_giveAddresses 89 = .ok (.return_, 1) := by decide +kernel
theorem dX8_giveAddresses_90 : decode cX8_giveAddresses 90 = .ok (.iinc 2 1, 3) := by decide +kernel
theorem dX8_giveAddresses_93 : decode cX8_giveAddresses 93 = .ok (.goto (-89), 3) := by decide +kernel
theorem dX8_giveAddresses_96 : decode cX8_giveAddresses 96 = .ok (.return_, 1) := by decide +kernel
theorem dX8_heldValue_0 : decode cX8_heldValue 0 = .ok (.aload_n 0, 1) := by decide +kernel
theorem dX8_heldValue_1 : decode cX8_heldValue 1 = .ok (.aload_n 2, 1) := by decide +kernel
theorem dX8_heldValue_2 : decode cX8_heldValue 2 = .ok (.aload_n 1, 1) := by decide +kernel
theorem dX8_heldValue_3 : decode cX8_heldValue 3 = .ok (.getfield 248, 3) := by decide +kernel
theorem dX8_heldValue_6 : decode cX8_heldValue 6 = .ok (.iload_n 3, 1) := by decide +kernel
theorem dX8_heldValue_7 : decode cX8_heldValue 7 = .ok (.iaload, 1) := by decide +kernel
theorem dX8_heldValue_8 : decode cX8_heldValue 8 = .ok (.invokevirtual 290, 3) := by decide +kernel
theorem dX8_heldValue_11 : decode cX8_heldValue 11 = .ok (.lstore 4, 2) := by decide +kernel
theorem dX8_heldValue_13 : decode cX8_heldValue 13 = .ok (.aload_n 2, 1) := by decide +kernel
theorem dX8_heldValue_14 : decode cX8_heldValue 14 = .ok (.getfield 251, 3) := by decide +kernel
theorem dX8_heldValue_17 : decode cX8_heldValue 17 = .ok (.iconst 3, 1) := by decide +kernel
theorem dX8_heldValue_18 : decode cX8_heldValue 18 = .ok (.if_icmp .ne 14, 3) := by decide +kernel
theorem dX8_heldValue_21 : decode cX8_heldValue 21 = .ok (.lload 4, 2) := by decide +kernel
theorem dX8_heldValue_23 : decode cX8_heldValue 23 = .ok (.aload_n 1, 1) := by decide +kernel
theorem dX8_heldValue_24 : decode cX8_heldValue 24 = .ok (.getfield 263, 3) := by decide +kernel
theorem dX8_heldValue_27 : decode cX8_heldValue 27 = .ok (.i2l, 1) := by decide +kernel
theorem dX8_heldValue_28 : decode cX8_heldValue 28 = .ok (.lsub, 1) := by decide +kernel
theorem dX8_heldValue_29 : decode cX8_heldValue 29 = .ok (.goto 5, 3) := by decide +kernel
theorem dX8_heldValue_32 : decode cX8_heldValue 32 = .ok (.lload 4, 2) := by decide +kernel
theorem dX8_heldValue_34 : decode cX8_heldValue 34 = .ok (.lreturn, 1) := by decide +kernel
theorem dX8_fits_0 : decode cX8_fits 0 = .ok (.aload_n 0, 1) := by decide +kernel
theorem dX8_fits_1 : decode cX8_fits 1 = .ok (.getfield 40, 3) := by decide +kernel
theorem dX8_fits_4 : decode cX8_fits 4 = .ok (.getfield 211, 3) := by decide +kernel
theorem dX8_fits_7 : decode cX8_fits 7 = .ok (.aload_n 1, 1) := by decide +kernel
theorem dX8_fits_8 : decode cX8_fits 8 = .ok (.getfield 205, 3) := by decide +kernel
theorem dX8_fits_11 : decode cX8_fits 11 = .ok (.aaload, 1) := by decide +kernel
theorem dX8_fits_12 : decode cX8_fits 12 = .ok (.astore_n 2, 1) := by decide +kernel
theorem dX8_fits_13 : decode cX8_fits 13 = .ok (.iconst 0, 1) := by decide +kernel
theorem dX8_fits_14 : decode cX8_fits 14 = .ok (.istore_n 3, 1) := by decide +kernel
theorem dX8_fits_15 : decode cX8_fits 15 = .ok (.iload_n 3, 1) := by decide +kernel
theorem dX8_fits_16 : decode cX8_fits 16 = .ok (.aload_n 2, 1) := by decide +kernel
theorem dX8_fits_17 : decode cX8_fits 17 = .ok (.getfield 276, 3) := by decide +kernel
theorem dX8_fits_20 : decode cX8_fits 20 = .ok (.if_icmp .ge 43, 3) := by decide +kernel
theorem dX8_fits_23 : decode cX8_fits 23 = .ok (.aload_n 2, 1) := by decide +kernel
theorem dX8_fits_24 : decode cX8_fits 24 = .ok (.getfield 240, 3) := by decide +kernel
theorem dX8_fits_27 : decode cX8_fits 27 = .ok (.iload_n 3, 1) := by decide +kernel
theorem dX8_fits_28 : decode cX8_fits 28 = .ok (.aaload, 1) := by decide +kernel
theorem dX8_fits_29 : decode cX8_fits 29 = .ok (.astore 4, 2) := by decide +kernel
theorem dX8_fits_31 : decode cX8_fits 31 = .ok (.aload 4, 2) := by decide +kernel
theorem dX8_fits_33 : decode cX8_fits 33 = .ok (.invokevirtual 279, 3) := by decide +kernel
theorem dX8_fits_36 : decode cX8_fits 36 = .ok (.ifCond .eq 21, 3) := by decide +kernel
theorem dX8_fits_39 : decode cX8_fits 39 = .ok (.aload 4, 2) := by decide +kernel
theorem dX8_fits_41 : decode cX8_fits 41 = .ok (.aload_n 0, 1) := by decide +kernel
theorem dX8_fits_42 : decode cX8_fits 42 = .ok (.aload_n 1, 1) := by decide +kernel
theorem dX8_fits_43 : decode cX8_fits 43 = .ok (.aload 4, 2) := by decide +kernel
theorem dX8_fits_45 : decode cX8_fits 45 = .ok (.iload_n 3, 1) := by decide +kernel
theorem dX8_fits_46 : decode cX8_fits 46 = .ok (.invokevirtual 282, 3) := by decide +kernel
theorem dX8_fits_49 : decode cX8_fits 49 = .ok (.invokevirtual 286, 3) := by decide +kernel
theorem dX8_fits_52 : decode cX8_fits 52 = .ok (.ifCond .ne 5, 3) := by decide +kernel
theorem dX8_fits_55 : decode cX8_fits 55 = .ok (.iconst 0, 1) := by decide +kernel
theorem dX8_fits_56 : decode cX8_fits 56 = .ok (.ireturn, 1) := by decide +kernel
theorem dX8_fits_57 : decode cX8_fits 57 = .ok (.iinc 3 1, 3) := by decide +kernel
theorem dX8_fits_60 : decode cX8_fits 60 = .ok (.goto (-45), 3) := by decide +kernel
theorem dX8_fits_63 : decode cX8_fits 63 = .ok (.iconst 1, 1) := by decide +kernel
theorem dX8_fits_64 : decode cX8_fits 64 = .ok (.ireturn, 1) := by decide +kernel
theorem dX8_moveMisfits_0 : decode cX8_moveMisfits 0 = .ok (.iconst 0, 1) := by decide +kernel
theorem dX8_moveMisfits_1 : decode cX8_moveMisfits 1 = .ok (.istore_n 1, 1) := by decide +kernel
theorem dX8_moveMisfits_2 : decode cX8_moveMisfits 2 = .ok (.iconst 0, 1) := by decide +kernel
theorem dX8_moveMisfits_3 : decode cX8_moveMisfits 3 = .ok (.istore_n 2, 1) := by decide +kernel
theorem dX8_moveMisfits_4 : decode cX8_moveMisfits 4 = .ok (.iload_n 2, 1) := by decide +kernel
theorem dX8_moveMisfits_5 : decode cX8_moveMisfits 5 = .ok (.aload_n 0, 1) := by decide +kernel
theorem dX8_moveMisfits_6 : decode cX8_moveMisfits 6 = .ok (.getfield 12, 3) := by decide +kernel
theorem dX8_moveMisfits_9 : decode cX8_moveMisfits 9 = .ok (.invokevirtual 80, 3) := by decide +kernel
theorem dX8_moveMisfits_12 : decode cX8_moveMisfits 12 = .ok (.if_icmp .ge 62, 3) := by decide +kernel
theorem dX8_moveMisfits_15 : decode cX8_moveMisfits 15 = .ok (.aload_n 0, 1) := by decide +kernel
theorem dX8_moveMisfits_16 : decode cX8_moveMisfits 16 = .ok (.getfield 12, 3) := by decide +kernel
theorem dX8_moveMisfits_19 : decode cX8_moveMisfits 19 = .ok (.iload_n 2, 1) := by decide +kernel
theorem dX8_moveMisfits_20 : decode cX8_moveMisfits 20 = .ok (.invokevirtual 87, 3) := by decide +kernel
theorem dX8_moveMisfits_23 : decode cX8_moveMisfits 23 = .ok (.checkcast 91, 3) := by decide +kernel
theorem dX8_moveMisfits_26 : decode cX8_moveMisfits 26 = .ok (.astore_n 3, 1) := by decide +kernel
theorem dX8_moveMisfits_27 : decode cX8_moveMisfits 27 = .ok (.aload_n 3, 1) := by decide +kernel
theorem dX8_moveMisfits_28 : decode cX8_moveMisfits 28 = .ok (.getfield 93, 3) := by decide +kernel
theorem dX8_moveMisfits_31 : decode cX8_moveMisfits 31 = .ok (.iconst 1, 1) := by decide +kernel
theorem dX8_moveMisfits_32 : decode cX8_moveMisfits 32 = .ok (.if_icmp .ne 36, 3) := by decide +kernel
theorem dX8_moveMisfits_35 : decode cX8_moveMisfits 35 = .ok (.aload_n 0, 1) := by decide +kernel
theorem dX8_moveMisfits_36 : decode cX8_moveMisfits 36 = .ok (.aload_n 3, 1) := by decide +kernel
theorem dX8_moveMisfits_37 : decode cX8_moveMisfits 37 = .ok (.invokevirtual 273, 3) := by decide +kernel
theorem dX8_moveMisfits_40 : decode cX8_moveMisfits 40 = .ok (.ifCond .ne 28, 3) := by decide +kernel
theorem dX8_moveMisfits_43 : decode cX8_moveMisfits 43 = .ok (.iconst 1, 1) := by decide +kernel
theorem dX8_moveMisfits_44 : decode cX8_moveMisfits 44 = .ok (.istore_n 1, 1) := by decide +kernel
theorem dX8_moveMisfits_45 : decode cX8_moveMisfits 45 = .ok (.aload_n 0, 1) := by decide +kernel
theorem dX8_moveMisfits_46 : decode cX8_moveMisfits 46 = .ok (.aload_n 3, 1) := by decide +kernel
theorem dX8_moveMisfits_47 : decode cX8_moveMisfits 47 = .ok (.invokevirtual 100, 3) := by decide +kernel
theorem dX8_moveMisfits_50 : decode cX8_moveMisfits 50 = .ok (.ifCond .ne 18, 3) := by decide +kernel
theorem dX8_moveMisfits_53 : decode cX8_moveMisfits 53 = .ok (.aload_n 0, 1) := by decide +kernel
theorem dX8_moveMisfits_54 : decode cX8_moveMisfits 54 = .ok (.getfield 29, 3) := by decide +kernel
theorem dX8_moveMisfits_57 : decode cX8_moveMisfits 57 = .ok (.bipush 7, 2) := by decide +kernel
theorem dX8_moveMisfits_59 : decode cX8_moveMisfits 59 = .ok (.aload_n 3, 1) := by decide +kernel
theorem dX8_moveMisfits_60 : decode cX8_moveMisfits 60 = .ok (.getfield 104, 3) := by decide +kernel
theorem dX8_moveMisfits_63 : decode cX8_moveMisfits 63 = .ok (.invokevirtual 107, 3) := by decide +kernel
theorem dX8_moveMisfits_66 : decode cX8_moveMisfits 66 = .ok (.iconst 1, 1) := by decide +kernel
theorem dX8_moveMisfits_67 : decode cX8_moveMisfits 67 = .ok (.ireturn, 1) := by decide +kernel
theorem dX8_moveMisfits_68 : decode cX8_moveMisfits 68 = .ok (.iinc 2 1, 3) := by decide +kernel
theorem dX8_moveMisfits_71 : decode cX8_moveMisfits 71 = .ok (.goto (-67), 3) := by decide +kernel
theorem dX8_moveMisfits_74 : decode cX8_moveMisfits 74 = .ok (.iload_n 1, 1) := by decide +kernel
theorem dX8_moveMisfits_75 : decode cX8_moveMisfits 75 = .ok (.ireturn, 1) := by decide +kernel
theorem dX8_settle_0 : decode cX8_settle 0 = .ok (.iconst 1, 1) := by decide +kernel
theorem dX8_settle_1 : decode cX8_settle 1 = .ok (.istore_n 1, 1) := by decide +kernel
theorem dX8_settle_2 : decode cX8_settle 2 = .ok (.iload_n 1, 1) := by decide +kernel
theorem dX8_settle_3 : decode cX8_settle 3 = .ok (.ldc_w 266, 3) := by decide +kernel
theorem dX8_settle_6 : decode cX8_settle 6 = .ok (.if_icmp .gt 61, 3) := by decide +kernel
theorem dX8_settle_9 : decode cX8_settle 9 = .ok (.aload_n 0, 1) := by decide +kernel
theorem dX8_settle_10 : decode cX8_settle 10 = .ok (.getfield 29, 3) := by decide +kernel
theorem dX8_settle_13 : decode cX8_settle 13 = .ok (.invokevirtual 84, 3) := by decide +kernel
theorem dX8_settle_16 : decode cX8_settle 16 = .ok (.ifCond .ne 51, 3) := by decide +kernel
theorem dX8_settle_19 : decode cX8_settle 19 = .ok (.aload_n 0, 1) := by decide +kernel
theorem dX8_settle_20 : decode cX8_settle 20 = .ok (.invokevirtual 267, 3) := by decide +kernel
theorem dX8_settle_23 : decode cX8_settle 23 = .ok (.aload_n 0, 1) := by decide +kernel
theorem dX8_settle_24 : decode cX8_settle 24 = .ok (.getfield 29, 3) := by decide +kernel
theorem dX8_settle_27 : decode cX8_settle 27 = .ok (.invokevirtual 84, 3) := by decide +kernel
theorem dX8_settle_30 : decode cX8_settle 30 = .ok (.ifCond .ne 31, 3) := by decide +kernel
theorem dX8_settle_33 : decode cX8_settle 33 = .ok (.aload_n 0, 1) := by decide +kernel
theorem dX8_settle_34 : decode cX8_settle 34 = .ok (.invokevirtual 270, 3) := by decide +kernel
theorem dX8_settle_37 : decode cX8_settle 37 = .ok (.ifCond .ne 24, 3) := by decide +kernel
theorem dX8_settle_40 : decode cX8_settle 40 = .ok (.aload_n 0, 1) := by decide +kernel
theorem dX8_settle_41 : decode cX8_settle 41 = .ok (.iload_n 1, 1) := by decide +kernel
theorem dX8_settle_42 : decode cX8_settle 42 = .ok (.putfield 60, 3) := by decide +kernel
theorem dX8_settle_45 : decode cX8_settle 45 = .ok (.aload_n 0, 1) := by decide +kernel
theorem dX8_settle_46 : decode cX8_settle 46 = .ok (.getfield 29, 3) := by decide +kernel
theorem dX8_settle_49 : decode cX8_settle 49 = .ok (.invokevirtual 84, 3) := by decide +kernel
theorem dX8_settle_52 : decode cX8_settle 52 = .ok (.ifCond .ne 7, 3) := by decide +kernel
theorem dX8_settle_55 : decode cX8_settle 55 = .ok (.iconst 1, 1) := by decide +kernel
theorem dX8_settle_56 : decode cX8_settle 56 = .ok (.goto 4, 3) := by decide +kernel
theorem dX8_settle_59 : decode cX8_settle 59 = .ok (.iconst 0, 1) := by decide +kernel
theorem dX8_settle_60 : decode cX8_settle 60 = .ok (.ireturn, 1) := by decide +kernel
theorem dX8_settle_61 : decode cX8_settle 61 = .ok (.iinc 1 1, 3) := by decide +kernel
theorem dX8_settle_64 : decode cX8_settle 64 = .ok (.goto (-62), 3) := by decide +kernel
theorem dX8_settle_67 : decode cX8_settle 67 = .ok (.iconst 0, 1) := by decide +kernel
theorem dX8_settle_68 : decode cX8_settle 68 = .ok (.ireturn, 1) := by decide +kernel
theorem dX8_isFree_0 : decode cX8_isFree 0 = .ok (.iconst 0, 1) := by decide +kernel
theorem dX8_isFree_1 : decode cX8_isFree 1 = .ok (.istore_n 2, 1) := by decide +kernel
theorem dX8_isFree_2 : decode cX8_isFree 2 = .ok (.iload_n 2, 1) := by decide +kernel
theorem dX8_isFree_3 : decode cX8_isFree 3 = .ok (.aload_n 1, 1) := by decide +kernel
theorem dX8_isFree_4 : decode cX8_isFree 4 = .ok (.getfield 177, 3) := by decide +kernel
theorem dX8_isFree_7 : decode cX8_isFree 7 = .ok (.if_icmp .ge 28, 3) := by decide +kernel
theorem dX8_isFree_10 : decode cX8_isFree 10 = .ok (.aload_n 0, 1) := by decide +kernel
theorem dX8_isFree_11 : decode cX8_isFree 11 = .ok (.getfield 44, 3) := by decide +kernel
theorem dX8_isFree_14 : decode cX8_isFree 14 = .ok (.getfield 303, 3) := by decide +kernel
theorem dX8_isFree_17 : decode cX8_isFree 17 = .ok (.aload_n 1, 1) := by decide +kernel
theorem dX8_isFree_18 : decode cX8_isFree 18 = .ok (.getfield 263, 3) := by decide +kernel
theorem dX8_isFree_21 : decode cX8_isFree 21 = .ok (.iload_n 2, 1) := by decide +kernel
theorem dX8_isFree_22 : decode cX8_isFree 22 = .ok (.iadd, 1) := by decide +kernel
theorem dX8_isFree_23 : decode cX8_isFree 23 = .ok (.baload, 1) := by decide +kernel
theorem dX8_isFree_24 : decode cX8_isFree 24 = .ok (.ifCond .eq 5, 3) := by decide +kernel
theorem dX8_isFree_27 : decode cX8_isFree 27 = .ok (.iconst 0, 1) := by decide +kernel
theorem dX8_isFree_28 : decode cX8_isFree 28 = .ok (.ireturn, 1) := by decide +kernel
theorem dX8_isFree_29 : decode cX8_isFree 29 = .ok (.iinc 2 1, 3) := by decide +kernel
theorem dX8_isFree_32 : decode cX8_isFree 32 = .ok (.goto (-30), 3) := by decide +kernel
theorem dX8_isFree_35 : decode cX8_isFree 35 = .ok (.iconst 1, 1) := by decide +kernel
theorem dX8_isFree_36 : decode cX8_isFree 36 = .ok (.ireturn, 1) := by decide +kernel
theorem dX8_layNumbers_0 : decode cX8_layNumbers 0 = .ok (.aload_n 1, 1) := by decide +kernel
theorem dX8_layNumbers_1 : decode cX8_layNumbers 1 = .ok (.getfield 104, 3) := by decide +kernel
theorem dX8_layNumbers_4 : decode cX8_layNumbers 4 = .ok (.iconst 2, 1) := by decide +kernel
theorem dX8_layNumbers_5 : decode cX8_layNumbers 5 = .ok (.iadd, 1) := by decide +kernel
theorem dX8_layNumbers_6 : decode cX8_layNumbers 6 = .ok (.istore_n 2, 1) := by decide +kernel
theorem dX8_layNumbers_7 : decode cX8_layNumbers 7 = .ok (.iconst 0, 1) := by decide +kernel
theorem dX8_layNumbers_8 : decode cX8_layNumbers 8 = .ok (.istore_n 3, 1) := by decide +kernel
theorem dX8_layNumbers_9 : decode cX8_layNumbers 9 = .ok (.iload_n 3, 1) := by decide +kernel
theorem dX8_layNumbers_10 : decode cX8_layNumbers 10 = .ok (.aload_n 1, 1) := by decide +kernel
theorem dX8_layNumbers_11 : decode cX8_layNumbers 11 = .ok (.getfield 177, 3) := by decide +kernel
theorem dX8_layNumbers_14 : decode cX8_layNumbers 14 = .ok (.if_icmp .ge 35, 3) := by decide +kernel
theorem dX8_layNumbers_17 : decode cX8_layNumbers 17 = .ok (.aload_n 0, 1) := by decide +kernel
theorem dX8_layNumbers_18 : decode cX8_layNumbers 18 = .ok (.getfield 44, 3) := by decide +kernel
theorem dX8_layNumbers_21 : decode cX8_layNumbers 21 = .ok (.aload_n 1, 1) := by decide +kernel
theorem dX8_layNumbers_22 : decode cX8_layNumbers 22 = .ok (.getfield 263, 3) := by decide +kernel
theorem dX8_layNumbers_25 : decode cX8_layNumbers 25 = .ok (.iload_n 3, 1) := by decide +kernel
theorem dX8_layNumbers_26 : decode cX8_layNumbers 26 = .ok (.iadd, 1) := by decide +kernel
theorem dX8_layNumbers_27 : decode cX8_layNumbers 27 = .ok (.aload_n 0, 1) := by decide +kernel
theorem dX8_layNumbers_28 : decode cX8_layNumbers 28 = .ok (.getfield 39, 3) := by decide +kernel
theorem dX8_layNumbers_31 : decode cX8_layNumbers 31 = .ok (.getfield 202, 3) := by decide +kernel
theorem dX8_layNumbers_34 : decode cX8_layNumbers 34 = .ok (.iload_n 2, 1) := by decide +kernel
theorem dX8_layNumbers_35 : decode cX8_layNumbers 35 = .ok (.iconst 2, 1) := by decide +kernel
theorem dX8_layNumbers_36 : decode cX8_layNumbers 36 = .ok (.iload_n 3, 1) := by decide +kernel
theorem dX8_layNumbers_37 : decode cX8_layNumbers 37 = .ok (.imul, 1) := by decide +kernel
theorem dX8_layNumbers_38 : decode cX8_layNumbers 38 = .ok (.iadd, 1) := by decide +kernel
theorem dX8_layNumbers_39 : decode cX8_layNumbers 39 = .ok (.laload, 1) := by decide +kernel
theorem dX8_layNumbers_40 : decode cX8_layNumbers 40 = .ok (.invokevirtual 311, 3) := by decide +kernel
theorem dX8_layNumbers_43 : decode cX8_layNumbers 43 = .ok (.iinc 3 1, 3) := by decide +kernel
theorem dX8_layNumbers_46 : decode cX8_layNumbers 46 = .ok (.goto (-37), 3) := by decide +kernel
theorem dX8_layNumbers_49 : decode cX8_layNumbers 49 = .ok (.return_, 1) := by decide +kernel
theorem dX8_layInstruction_0 : decode cX8_layInstruction 0 = .ok (.aload_n 0, 1) := by decide +kernel
theorem dX8_layInstruction_1 : decode cX8_layInstruction 1 = .ok (.getfield 40, 3) := by decide +kernel
theorem dX8_layInstruction_4 : decode cX8_layInstruction 4 = .ok (.getfield 211, 3) := by decide +kernel
theorem dX8_layInstruction_7 : decode cX8_layInstruction 7 = .ok (.aload_n 1, 1) := by decide +kernel
theorem dX8_layInstruction_8 : decode cX8_layInstruction 8 = .ok (.getfield 205, 3) := by decide +kernel
theorem dX8_layInstruction_11 : decode cX8_layInstruction 11 = .ok (.aaload, 1) := by decide +kernel
theorem dX8_layInstruction_12 : decode cX8_layInstruction 12 = .ok (.astore_n 2, 1) := by decide +kernel
theorem dX8_layInstruction_13 : decode cX8_layInstruction 13 = .ok (.iconst 0, 1) := by decide +kernel
theorem dX8_layInstruction_14 : decode cX8_layInstruction 14 = .ok (.istore_n 3, 1) := by decide +kernel
theorem dX8_layInstruction_15 : decode cX8_layInstruction 15 = .ok (.iload_n 3, 1) := by decide +kernel
theorem dX8_layInstruction_16 : decode cX8_layInstruction 16 = .ok (.aload_n 2, 1) := by decide +kernel
theorem dX8_layInstruction_17 : decode cX8_layInstruction 17 = .ok (.getfield 276, 3) := by decide +kernel
theorem dX8_layInstruction_20 : decode cX8_layInstruction 20 = .ok (.if_icmp .ge 27, 3) := by decide +kernel
theorem dX8_layInstruction_23 : decode cX8_layInstruction 23 = .ok (.aload_n 0, 1) := by decide +kernel
theorem dX8_layInstruction_24 : decode cX8_layInstruction 24 = .ok (.getfield 25, 3) := by decide +kernel
theorem dX8_layInstruction_27 : decode cX8_layInstruction 27 = .ok (.iload_n 3, 1) := by decide +kernel
theorem dX8_layInstruction_28 : decode cX8_layInstruction 28 = .ok (.aload_n 0, 1) := by decide +kernel
theorem dX8_layInstruction_29 : decode cX8_layInstruction 29 = .ok (.aload_n 1, 1) := by decide +kernel
theorem dX8_layInstruction_30 : decode cX8_layInstruction 30 = .ok (.aload_n 2, 1) := by decide +kernel
theorem dX8_layInstruction_31 : decode cX8_layInstruction 31 = .ok (.getfield 240, 3) := by decide +kernel
theorem dX8_layInstruction_34 : decode cX8_layInstruction 34 = .ok (.iload_n 3, 1) := by decide +kernel
theorem dX8_layInstruction_35 : decode cX8_layInstruction 35 = .ok (.aaload, 1) := by decide +kernel
theorem dX8_layInstruction_36 : decode cX8_layInstruction 36 = .ok (.iload_n 3, 1) := by decide +kernel
theorem dX8_layInstruction_37 : decode cX8_layInstruction 37 = .ok (.invokevirtual 282, 3) := by decide +kernel
theorem dX8_layInstruction_40 : decode cX8_layInstruction 40 = .ok (.lastore, 1) := by decide +kernel
theorem dX8_layInstruction_41 : decode cX8_layInstruction 41 = .ok (.iinc 3 1, 3) := by decide +kernel
theorem dX8_layInstruction_44 : decode cX8_layInstruction 44 = .ok (.goto (-29), 3) := by decide +kernel
theorem dX8_layInstruction_47 : decode cX8_layInstruction 47 = .ok (.iconst 0, 1) := by decide +kernel
theorem dX8_layInstruction_48 : decode cX8_layInstruction 48 = .ok (.istore_n 3, 1) := by decide +kernel
theorem dX8_layInstruction_49 : decode cX8_layInstruction 49 = .ok (.iload_n 3, 1) := by decide +kernel
theorem dX8_layInstruction_50 : decode cX8_layInstruction 50 = .ok (.aload_n 2, 1) := by decide +kernel
theorem dX8_layInstruction_51 : decode cX8_layInstruction 51 = .ok (.getfield 231, 3) := by decide +kernel
theorem dX8_layInstruction_54 : decode cX8_layInstruction 54 = .ok (.if_icmp .ge 31, 3) := by decide +kernel
theorem dX8_layInstruction_57 : decode cX8_layInstruction 57 = .ok (.aload_n 0, 1) := by decide +kernel
theorem dX8_layInstruction_58 : decode cX8_layInstruction 58 = .ok (.getfield 44, 3) := by decide +kernel
theorem dX8_layInstruction_61 : decode cX8_layInstruction 61 = .ok (.aload_n 1, 1) := by decide +kernel
theorem dX8_layInstruction_62 : decode cX8_layInstruction 62 = .ok (.getfield 263, 3) := by decide +kernel
theorem dX8_layInstruction_65 : decode cX8_layInstruction 65 = .ok (.iload_n 3, 1) := by decide +kernel
theorem dX8_layInstruction_66 : decode cX8_layInstruction 66 = .ok (.iadd, 1) := by decide +kernel
theorem dX8_layInstruction_67 : decode cX8_layInstruction 67 = .ok (.aload_n 2, 1) := by decide +kernel
theorem dX8_layInstruction_68 : decode cX8_layInstruction 68 = .ok (.iload_n 3, 1) := by decide +kernel
theorem dX8_layInstruction_69 : decode cX8_layInstruction 69 = .ok (.aload_n 0, 1) := by decide +kernel
theorem dX8_layInstruction_70 : decode cX8_layInstruction 70 = .ok (.getfield 25, 3) := by decide +kernel
theorem dX8_layInstruction_73 : decode cX8_layInstruction 73 = .ok (.invokevirtual 307, 3) := by decide +kernel
theorem dX8_layInstruction_76 : decode cX8_layInstruction 76 = .ok (.invokevirtual 311, 3) := by decide +kernel
theorem dX8_layInstruction_79 : decode cX8_layInstruction 79 = .ok (.iinc 3 1, 3) := by decide +kernel
theorem dX8_layInstruction_82 : decode cX8_layInstruction 82 = .ok (.goto (-33), 3) := by decide +kernel
theorem dX8_layInstruction_85 : decode cX8_layInstruction 85 = .ok (.return_, 1) := by decide +kernel
theorem dX8_layDown_0 : decode cX8_layDown 0 = .ok (.iconst 0, 1) := by decide +kernel
theorem dX8_layDown_1 : decode cX8_layDown 1 = .ok (.istore_n 1, 1) := by decide +kernel
theorem dX8_layDown_2 : decode cX8_layDown 2 = .ok (.iload_n 1, 1) := by decide +kernel
theorem dX8_layDown_3 : decode cX8_layDown 3 = .ok (.aload_n 0, 1) := by decide +kernel
theorem dX8_layDown_4 : decode cX8_layDown 4 = .ok (.getfield 12, 3) := by decide +kernel
theorem dX8_layDown_7 : decode cX8_layDown 7 = .ok (.invokevirtual 80, 3) := by decide +kernel
theorem dX8_layDown_10 : decode cX8_layDown 10 = .ok (.if_icmp .ge 73, 3) := by decide +kernel
theorem dX8_layDown_13 : decode cX8_layDown 13 = .ok (.aload_n 0, 1) := by decide +kernel
theorem dX8_layDown_14 : decode cX8_layDown 14 = .ok (.getfield 12, 3) := by decide +kernel
theorem dX8_layDown_17 : decode cX8_layDown 17 = .ok (.iload_n 1, 1) := by decide +kernel
theorem dX8_layDown_18 : decode cX8_layDown 18 = .ok (.invokevirtual 87, 3) := by decide +kernel
theorem dX8_layDown_21 : decode cX8_layDown 21 = .ok (.checkcast 91, 3) := by decide +kernel
theorem dX8_layDown_24 : decode cX8_layDown 24 = .ok (.astore_n 2, 1) := by decide +kernel
theorem dX8_layDown_25 : decode cX8_layDown 25 = .ok (.aload_n 0, 1) := by decide +kernel
theorem dX8_layDown_26 : decode cX8_layDown 26 = .ok (.aload_n 2, 1) := by decide +kernel
theorem dX8_layDown_27 : decode cX8_layDown 27 = .ok (.invokevirtual 294, 3) := by decide +kernel
theorem dX8_layDown_30 : decode cX8_layDown 30 = .ok (.ifCond .ne 18, 3) := by decide +kernel
theorem dX8_layDown_33 : decode cX8_layDown 33 = .ok (.aload_n 0, 1) := by decide +kernel
theorem dX8_layDown_34 : decode cX8_layDown 34 = .ok (.getfield 29, 3) := by decide +kernel
theorem dX8_layDown_37 : decode cX8_layDown 37 = .ok (.bipush 8, 2) := by decide +kernel
theorem dX8_layDown_39 : decode cX8_layDown 39 = .ok (.aload_n 2, 1) := by decide +kernel
theorem dX8_layDown_40 : decode cX8_layDown 40 = .ok (.getfield 184, 3) := by decide +kernel
theorem dX8_layDown_43 : decode cX8_layDown 43 = .ok (.invokevirtual 107, 3) := by decide +kernel
theorem dX8_layDown_46 : decode cX8_layDown 46 = .ok (.iconst 0, 1) := by decide +kernel
theorem dX8_layDown_47 : decode cX8_layDown 47 = .ok (.ireturn, 1) := by decide +kernel
theorem dX8_layDown_48 : decode cX8_layDown 48 = .ok (.aload_n 2, 1) := by decide +kernel
theorem dX8_layDown_49 : decode cX8_layDown 49 = .ok (.getfield 93, 3) := by decide +kernel
theorem dX8_layDown_52 : decode cX8_layDown 52 = .ok (.iconst 1, 1) := by decide +kernel
theorem dX8_layDown_53 : decode cX8_layDown 53 = .ok (.if_icmp .ne 11, 3) := by decide +kernel
theorem dX8_layDown_56 : decode cX8_layDown 56 = .ok (.aload_n 0, 1) := by decide +kernel
theorem dX8_layDown_57 : decode cX8_layDown 57 = .ok (.aload_n 2, 1) := by decide +kernel
theorem dX8_layDown_58 : decode cX8_layDown 58 = .ok (.invokevirtual 297, 3) := by decide +kernel
theorem dX8_layDown_61 : decode cX8_layDown 61 = .ok (.goto 16, 3) := by decide +kernel
theorem dX8_layDown_64 : decode cX8_layDown 64 = .ok (.aload_n 2, 1) := by decide +kernel
theorem dX8_layDown_65 : decode cX8_layDown 65 = .ok (.getfield 93, 3) := by decide +kernel
theorem dX8_layDown_68 : decode cX8_layDown 68 = .ok (.iconst 2, 1) := by decide +kernel
theorem dX8_layDown_69 : decode cX8_layDown 69 = .ok (.if_icmp .ne 8, 3) := by decide +kernel
theorem dX8_layDown_72 : decode cX8_layDown 72 = .ok (.aload_n 0, 1) := by decide +kernel
theorem dX8_layDown_73 : decode cX8_layDown 73 = .ok (.aload_n 2, 1) := by decide +kernel
theorem dX8_layDown_74 : decode cX8_layDown 74 = .ok (.invokevirtual 300, 3) := by decide +kernel
theorem dX8_layDown_77 : decode cX8_layDown 77 = .ok (.iinc 1 1, 3) := by decide +kernel
theorem dX8_layDown_80 : decode cX8_layDown 80 = .ok (.goto (-78), 3) := by decide +kernel
theorem dX8_layDown_83 : decode cX8_layDown 83 = .ok (.iconst 1, 1) := by decide +kernel
theorem dX8_layDown_84 : decode cX8_layDown 84 = .ok (.ireturn, 1) := by decide +kernel
theorem dX9_init_0 : decode cX9_init 0 = .ok (.aload_n 0, 1) := by decide +kernel
theorem dX9_init_1 : decode cX9_init 1 = .ok (.invokespecial 3, 3) := by decide +kernel
theorem dX9_init_4 : decode cX9_init 4 = .ok (.aload_n 0, 1) := by decide +kernel
theorem dX9_init_5 : decode cX9_init 5 = .ok (.iconst 0, 1) := by decide +kernel
theorem dX9_init_6 : decode cX9_init 6 = .ok (.putfield 9, 3) := by decide +kernel
theorem dX9_init_9 : decode cX9_init 9 = .ok (.aload_n 0, 1) := by decide +kernel
theorem dX9_init_10 : decode cX9_init 10 = .ok (.iconst (-1), 1) := by decide +kernel
theorem dX9_init_11 : decode cX9_init 11 = .ok (.putfield 15, 3) := by decide +kernel
theorem dX9_init_14 : decode cX9_init 14 = .ok (.aload_n 0, 1) := by decide +kernel
theorem dX9_init_15 : decode cX9_init 15 = .ok (.aload_n 1, 1) := by decide +kernel
theorem dX9_init_16 : decode cX9_init 16 = .ok (.putfield 18, 3) := by decide +kernel
theorem dX9_init_19 : decode cX9_init 19 = .ok (.return_, 1) := by decide +kernel
theorem dX10_init_0 : decode cX10_init 0 = .ok (.aload_n 0, 1) := by decide +kernel
theorem dX10_init_1 : decode cX10_init 1 = .ok (.invokespecial 3, 3) := by decide +kernel
theorem dX10_init_4 : decode cX10_init 4 = .ok (.aload_n 0, 1) := by decide +kernel
theorem dX10_init_5 : decode cX10_init 5 = .ok (.sipush 6000, 3) := by decide +kernel
theorem dX10_init_8 : decode cX10_init 8 = .ok (.newarray .byte, 2) := by decide +kernel
theorem dX10_init_10 : decode cX10_init 10 = .ok (.putfield 9, 3) := by decide +kernel
theorem dX10_init_13 : decode cX10_init 13 = .ok (.aload_n 0, 1) := by decide +kernel
theorem dX10_init_14 : decode cX10_init 14 = .ok (.sipush 6003, 3) := by decide +kernel
theorem dX10_init_17 : decode cX10_init 17 = .ok (.newarray .byte, 2) := by decide +kernel
theorem dX10_init_19 : decode cX10_init 19 = .ok (.putfield 15, 3) := by decide +kernel
theorem dX10_init_22 : decode cX10_init 22 = .ok (.aload_n 0, 1) := by decide +kernel
theorem dX10_init_23 : decode cX10_init 23 = .ok (.sipush 6003, 3) := by decide +kernel
theorem dX10_init_26 : decode cX10_init 26 = .ok (.newarray .int, 2) := by decide +kernel
theorem dX10_init_28 : decode cX10_init 28 = .ok (.putfield 18, 3) := by decide +kernel
theorem dX10_init_31 : decode cX10_init 31 = .ok (.aload_n 0, 1) := by decide +kernel
theorem dX10_init_32 : decode cX10_init 32 = .ok (.sipush 6003, 3) := by decide +kernel
theorem dX10_init_35 : decode cX10_init 35 = .ok (.newarray .int, 2) := by decide +kernel
theorem dX10_init_37 : decode cX10_init 37 = .ok (.putfield 22, 3) := by decide +kernel
theorem dX10_init_40 : decode cX10_init 40 = .ok (.aload_n 0, 1) := by decide +kernel
theorem dX10_init_41 : decode cX10_init 41 = .ok (.sipush 6003, 3) := by decide +kernel
theorem dX10_init_44 : decode cX10_init 44 = .ok (.newarray .long, 2) := by decide +kernel
theorem dX10_init_46 : decode cX10_init 46 = .ok (.putfield 25, 3) := by decide +kernel
theorem dX10_init_49 : decode cX10_init 49 = .ok (.return_, 1) := by decide +kernel
theorem dX10_hasRoomFor_0 : decode cX10_hasRoomFor 0 = .ok (.aload_n 0, 1) := by decide +kernel
theorem dX10_hasRoomFor_1 : decode cX10_hasRoomFor 1 = .ok (.getfield 29, 3) := by decide +kernel
theorem dX10_hasRoomFor_4 : decode cX10_hasRoomFor 4 = .ok (.iload_n 1, 1) := by decide +kernel
theorem dX10_hasRoomFor_5 : decode cX10_hasRoomFor 5 = .ok (.iadd, 1) := by decide +kernel
theorem dX10_hasRoomFor_6 : decode cX10_hasRoomFor 6 = .ok (.sipush 6000, 3) := by decide +kernel
theorem dX10_hasRoomFor_9 : decode cX10_hasRoomFor 9 = .ok (.if_icmp .gt 7, 3) := by decide +kernel
theorem dX10_hasRoomFor_12 : decode cX10_hasRoomFor 12 = .ok (.iconst 1, 1) := by decide +kernel
theorem dX10_hasRoomFor_13 : decode cX10_hasRoomFor 13 = .ok (.goto 4, 3) := by decide +kernel
theorem dX10_hasRoomFor_16 : decode cX10_hasRoomFor 16 = .ok (.iconst 0, 1) := by decide +kernel
theorem dX10_hasRoomFor_17 : decode cX10_hasRoomFor 17 = .ok (.ireturn, 1) := by decide +kernel
theorem dX10_addByte_0 : decode cX10_addByte 0 = .ok (.aload_n 0, 1) := by decide +kernel
theorem dX10_addByte_1 : decode cX10_addByte 1 = .ok (.getfield 9, 3) := by decide +kernel
theorem dX10_addByte_4 : decode cX10_addByte 4 = .ok (.aload_n 0, 1) := by decide +kernel
theorem dX10_addByte_5 : decode cX10_addByte 5 = .ok (.getfield 29, 3) := by decide +kernel
theorem dX10_addByte_8 : decode cX10_addByte 8 = .ok (.iload_n 1, 1) := by decide +kernel
theorem dX10_addByte_9 : decode cX10_addByte 9 = .ok (.i2b, 1) := by decide +kernel
theorem dX10_addByte_10 : decode cX10_addByte 10 = .ok (.bastore, 1) := by decide +kernel
theorem dX10_addByte_11 : decode cX10_addByte 11 = .ok (.aload_n 0, 1) := by decide +kernel
theorem dX10_addByte_12 : decode cX10_addByte 12 = .ok (.dup, 1) := by decide +kernel
theorem dX10_addByte_13 : decode cX10_addByte 13 = .ok (.getfield 29, 3) := by decide +kernel
theorem dX10_addByte_16 : decode cX10_addByte 16 = .ok (.iconst 1, 1) := by decide +kernel
theorem dX10_addByte_17 : decode cX10_addByte 17 = .ok (.iadd, 1) := by decide +kernel
theorem dX10_addByte_18 : decode cX10_addByte 18 = .ok (.putfield 29, 3) := by decide +kernel
theorem dX10_addByte_21 : decode cX10_addByte 21 = .ok (.return_, 1) := by decide +kernel
theorem dX10_addFour_0 : decode cX10_addFour 0 = .ok (.aload_n 0, 1) := by decide +kernel
theorem dX10_addFour_1 : decode cX10_addFour 1 = .ok (.iload_n 1, 1) := by decide +kernel
theorem dX10_addFour_2 : decode cX10_addFour 2 = .ok (.bipush 24, 2) := by decide +kernel
theorem dX10_addFour_4 : decode cX10_addFour 4 = .ok (.iushr, 1) := by decide +kernel
theorem dX10_addFour_5 : decode cX10_addFour 5 = .ok (.invokevirtual 33, 3) := by decide +kernel
theorem dX10_addFour_8 : decode cX10_addFour 8 = .ok (.aload_n 0, 1) := by decide +kernel
theorem dX10_addFour_9 : decode cX10_addFour 9 = .ok (.iload_n 1, 1) := by decide +kernel
theorem dX10_addFour_10 : decode cX10_addFour 10 = .ok (.bipush 16, 2) := by decide +kernel
theorem dX10_addFour_12 : decode cX10_addFour 12 = .ok (.iushr, 1) := by decide +kernel
theorem dX10_addFour_13 : decode cX10_addFour 13 = .ok (.invokevirtual 33, 3) := by decide +kernel
theorem dX10_addFour_16 : decode cX10_addFour 16 = .ok (.aload_n 0, 1) := by decide +kernel
theorem dX10_addFour_17 : decode cX10_addFour 17 = .ok (.iload_n 1, 1) := by decide +kernel
theorem dX10_addFour_18 : decode cX10_addFour 18 = .ok (.bipush 8, 2) := by decide +kernel
theorem dX10_addFour_20 : decode cX10_addFour 20 = .ok (.iushr, 1) := by decide +kernel
theorem dX10_addFour_21 : decode cX10_addFour 21 = .ok (.invokevirtual 33, 3) := by decide +kernel
theorem dX10_addFour_24 : decode cX10_addFour 24 = .ok (.aload_n 0, 1) := by decide +kernel
theorem dX10_addFour_25 : decode cX10_addFour 25 = .ok (.iload_n 1, 1) := by decide +kernel
theorem dX10_addFour_26 : decode cX10_addFour 26 = .ok (.invokevirtual 33, 3) := by decide +kernel
theorem dX10_addFour_29 : decode cX10_addFour 29 = .ok (.return_, 1) := by decide +kernel
theorem dX11_init_0 : decode cX11_init 0 = .ok (.aload_n 0, 1) := by decide +kernel
theorem dX11_init_1 : decode cX11_init 1 = .ok (.invokespecial 1, 3) := by decide +kernel
theorem dX11_init_4 : decode cX11_init 4 = .ok (.new 7, 3) := by decide +kernel
theorem dX11_init_7 : decode cX11_init 7 = .ok (.dup, 1) := by decide +kernel
theorem dX11_init_8 : decode cX11_init 8 = .ok (.invokespecial 9, 3) := by decide +kernel
theorem dX11_init_11 : decode cX11_init 11 = .ok (.astore_n 1, 1) := by decide +kernel
theorem dX11_init_12 : decode cX11_init 12 = .ok (.new 10, 3) := by decide +kernel
theorem dX11_init_15 : decode cX11_init 15 = .ok (.dup, 1) := by decide +kernel
theorem dX11_init_16 : decode cX11_init 16 = .ok (.invokespecial 12, 3) := by decide +kernel
theorem dX11_init_19 : decode cX11_init 19 = .ok (.astore_n 2, 1) := by decide +kernel
theorem dX11_init_20 : decode cX11_init 20 = .ok (.new 13, 3) := by decide +kernel
theorem dX11_init_23 : decode cX11_init 23 = .ok (.dup, 1) := by decide +kernel
theorem dX11_init_24 : decode cX11_init 24 = .ok (.invokespecial 15, 3) := by decide +kernel
theorem dX11_init_27 : decode cX11_init 27 = .ok (.astore_n 3, 1) := by decide +kernel
theorem dX11_init_28 : decode cX11_init 28 = .ok (.new 16, 3) := by decide +kernel
theorem dX11_init_31 : decode cX11_init 31 = .ok (.dup, 1) := by decide +kernel
theorem dX11_init_32 : decode cX11_init 32 = .ok (.aload_n 1, 1) := by decide +kernel
theorem dX11_init_33 : decode cX11_init 33 = .ok (.invokespecial 18, 3) := by decide +kernel
theorem dX11_init_36 : decode cX11_init 36 = .ok (.astore 4, 2) := by decide +kernel
theorem dX11_init_38 : decode cX11_init 38 = .ok (.aload_n 0, 1) := by decide +kernel
theorem dX11_init_39 : decode cX11_init 39 = .ok (.aload_n 1, 1) := by decide +kernel
theorem dX11_init_40 : decode cX11_init 40 = .ok (.putfield 21, 3) := by decide +kernel
theorem dX11_init_43 : decode cX11_init 43 = .ok (.aload_n 0, 1) := by decide +kernel
theorem dX11_init_44 : decode cX11_init 44 = .ok (.aload 4, 2) := by decide +kernel
theorem dX11_init_46 : decode cX11_init 46 = .ok (.putfield 27, 3) := by decide +kernel
theorem dX11_init_49 : decode cX11_init 49 = .ok (.aload_n 0, 1) := by decide +kernel
theorem dX11_init_50 : decode cX11_init 50 = .ok (.aload_n 2, 1) := by decide +kernel
theorem dX11_init_51 : decode cX11_init 51 = .ok (.putfield 31, 3) := by decide +kernel
theorem dX11_init_54 : decode cX11_init 54 = .ok (.aload_n 0, 1) := by decide +kernel
theorem dX11_init_55 : decode cX11_init 55 = .ok (.aload_n 3, 1) := by decide +kernel
theorem dX11_init_56 : decode cX11_init 56 = .ok (.putfield 35, 3) := by decide +kernel
theorem dX11_init_59 : decode cX11_init 59 = .ok (.aload_n 0, 1) := by decide +kernel
theorem dX11_init_60 : decode cX11_init 60 = .ok (.new 39, 3) := by decide +kernel
theorem dX11_init_63 : decode cX11_init 63 = .ok (.dup, 1) := by decide +kernel
theorem dX11_init_64 : decode cX11_init 64 = .ok (.aload_n 2, 1) := by decide +kernel
theorem dX11_init_65 : decode cX11_init 65 = .ok (.aload_n 3, 1) := by decide +kernel
theorem dX11_init_66 : decode cX11_init 66 = .ok (.invokespecial 41, 3) := by decide +kernel
theorem dX11_init_69 : decode cX11_init 69 = .ok (.putfield 44, 3) := by decide +kernel
theorem dX11_init_72 : decode cX11_init 72 = .ok (.aload_n 0, 1) := by decide +kernel
theorem dX11_init_73 : decode cX11_init 73 = .ok (.new 48, 3) := by decide +kernel
theorem dX11_init_76 : decode cX11_init 76 = .ok (.dup, 1) := by decide +kernel
theorem dX11_init_77 : decode cX11_init 77 = .ok (.aload 4, 2) := by decide +kernel
theorem dX11_init_79 : decode cX11_init 79 = .ok (.aload_n 2, 1) := by decide +kernel
theorem dX11_init_80 : decode cX11_init 80 = .ok (.invokespecial 50, 3) := by decide +kernel
theorem dX11_init_83 : decode cX11_init 83 = .ok (.putfield 53, 3) := by decide +kernel
theorem dX11_init_86 : decode cX11_init 86 = .ok (.aload_n 0, 1) := by decide +kernel
theorem dX11_init_87 : decode cX11_init 87 = .ok (.new 57, 3) := by decide +kernel
theorem dX11_init_90 : decode cX11_init 90 = .ok (.dup, 1) := by decide +kernel
theorem dX11_init_91 : decode cX11_init 91 = .ok (.aload 4, 2) := by decide +kernel
theorem dX11_init_93 : decode cX11_init 93 = .ok (.aload_n 2, 1) := by decide +kernel
theorem dX11_init_94 : decode cX11_init 94 = .ok (.aload_n 3, 1) := by decide +kernel
theorem dX11_init_95 : decode cX11_init 95 = .ok (.invokespecial 59, 3) := by decide +kernel
theorem dX11_init_98 : decode cX11_init 98 = .ok (.putfield 62, 3) := by decide +kernel
theorem dX11_init_101 : decode cX11_init 101 = .ok (.return_, 1) := by decide +kernel
theorem dX11_feed_0 : decode cX11_feed 0 = .ok (.aload_n 0, 1) := by decide +kernel
theorem dX11_feed_1 : decode cX11_feed 1 = .ok (.getfield 21, 3) := by decide +kernel
theorem dX11_feed_4 : decode cX11_feed 4 = .ok (.bipush 20, 2) := by decide +kernel
theorem dX11_feed_6 : decode cX11_feed 6 = .ok (.invokevirtual 66, 3) := by decide +kernel
theorem dX11_feed_9 : decode cX11_feed 9 = .ok (.ifCond .ne 13, 3) := by decide +kernel
theorem dX11_feed_12 : decode cX11_feed 12 = .ok (.new 70, 3) := by decide +kernel
theorem dX11_feed_15 : decode cX11_feed 15 = .ok (.dup, 1) := by decide +kernel
theorem dX11_feed_16 : decode cX11_feed 16 = .ok (.ldc 72, 2) := by decide +kernel
theorem dX11_feed_18 : decode cX11_feed 18 = .ok (.invokespecial 74, 3) := by decide +kernel
theorem dX11_feed_21 : decode cX11_feed 21 = .ok (.athrow, 1) := by decide +kernel
theorem dX11_feed_22 : decode cX11_feed 22 = .ok (.aload_n 0, 1) := by decide +kernel
theorem dX11_feed_23 : decode cX11_feed 23 = .ok (.getfield 21, 3) := by decide +kernel
theorem dX11_feed_26 : decode cX11_feed 26 = .ok (.iload_n 1, 1) := by decide +kernel
theorem dX11_feed_27 : decode cX11_feed 27 = .ok (.invokevirtual 77, 3) := by decide +kernel
theorem dX11_feed_30 : decode cX11_feed 30 = .ok (.aload_n 0, 1) := by decide +kernel
theorem dX11_feed_31 : decode cX11_feed 31 = .ok (.getfield 21, 3) := by decide +kernel
theorem dX11_feed_34 : decode cX11_feed 34 = .ok (.iload_n 2, 1) := by decide +kernel
theorem dX11_feed_35 : decode cX11_feed 35 = .ok (.invokevirtual 77, 3) := by decide +kernel
theorem dX11_feed_38 : decode cX11_feed 38 = .ok (.aload_n 0, 1) := by decide +kernel
theorem dX11_feed_39 : decode cX11_feed 39 = .ok (.getfield 21, 3) := by decide +kernel
theorem dX11_feed_42 : decode cX11_feed 42 = .ok (.iload_n 3, 1) := by decide +kernel
theorem dX11_feed_43 : decode cX11_feed 43 = .ok (.invokevirtual 77, 3) := by decide +kernel
theorem dX11_feed_46 : decode cX11_feed 46 = .ok (.aload_n 0, 1) := by decide +kernel
theorem dX11_feed_47 : decode cX11_feed 47 = .ok (.getfield 21, 3) := by decide +kernel
theorem dX11_feed_50 : decode cX11_feed 50 = .ok (.iload 4, 2) := by decide +kernel
theorem dX11_feed_52 : decode cX11_feed 52 = .ok (.invokevirtual 77, 3) := by decide +kernel
theorem dX11_feed_55 : decode cX11_feed 55 = .ok (.aload_n 0, 1) := by decide +kernel
theorem dX11_feed_56 : decode cX11_feed 56 = .ok (.getfield 21, 3) := by decide +kernel
theorem dX11_feed_59 : decode cX11_feed 59 = .ok (.iload 5, 2) := by decide +kernel
theorem dX11_feed_61 : decode cX11_feed 61 = .ok (.invokevirtual 77, 3) := by decide +kernel
theorem dX11_feed_64 : decode cX11_feed 64 = .ok (.aload_n 0, 1) := by decide +kernel
theorem dX11_feed_65 : decode cX11_feed 65 = .ok (.getfield 21, 3) := by decide +kernel
theorem dX11_feed_68 : decode cX11_feed 68 = .ok (.getfield 81, 3) := by decide +kernel
theorem dX11_feed_71 : decode cX11_feed 71 = .ok (.ireturn, 1) := by decide +kernel
theorem dX11_end_0 : decode cX11_end 0 = .ok (.iload_n 1, 1) := by decide +kernel
theorem dX11_end_1 : decode cX11_end 1 = .ok (.ifCond .lt 14, 3) := by decide +kernel
theorem dX11_end_4 : decode cX11_end 4 = .ok (.iload_n 1, 1) := by decide +kernel
theorem dX11_end_5 : decode cX11_end 5 = .ok (.aload_n 0, 1) := by decide +kernel
theorem dX11_end_6 : decode cX11_end 6 = .ok (.getfield 21, 3) := by decide +kernel
theorem dX11_end_9 : decode cX11_end 9 = .ok (.getfield 81, 3) := by decide +kernel
theorem dX11_end_12 : decode cX11_end 12 = .ok (.if_icmp .le 13, 3) := by decide +kernel
theorem dX11_end_15 : decode cX11_end 15 = .ok (.new 85, 3) := by decide +kernel
theorem dX11_end_18 : decode cX11_end 18 = .ok (.dup, 1) := by decide +kernel
theorem dX11_end_19 : decode cX11_end 19 = .ok (.ldc 87, 2) := by decide +kernel
theorem dX11_end_21 : decode cX11_end 21 = .ok (.invokespecial 89, 3) := by decide +kernel
theorem dX11_end_24 : decode cX11_end 24 = .ok (.athrow, 1) := by decide +kernel
theorem dX11_end_25 : decode cX11_end 25 = .ok (.aload_n 0, 1) := by decide +kernel
theorem dX11_end_26 : decode cX11_end 26 = .ok (.getfield 21, 3) := by decide +kernel
theorem dX11_end_29 : decode cX11_end 29 = .ok (.iload_n 1, 1) := by decide +kernel
theorem dX11_end_30 : decode cX11_end 30 = .ok (.putfield 81, 3) := by decide +kernel
theorem dX11_end_33 : decode cX11_end 33 = .ok (.aload_n 0, 1) := by decide +kernel
theorem dX11_end_34 : decode cX11_end 34 = .ok (.getfield 21, 3) := by decide +kernel
theorem dX11_end_37 : decode cX11_end 37 = .ok (.iconst 0, 1) := by decide +kernel
theorem dX11_end_38 : decode cX11_end 38 = .ok (.invokevirtual 90, 3) := by decide +kernel
theorem dX11_end_41 : decode cX11_end 41 = .ok (.ireturn, 1) := by decide +kernel
theorem dX11_describe_0 : decode cX11_describe 0 = .ok (.aload_n 0, 1) := by decide +kernel
theorem dX11_describe_1 : decode cX11_describe 1 = .ok (.getfield 62, 3) := by decide +kernel
theorem dX11_describe_4 : decode cX11_describe 4 = .ok (.invokevirtual 94, 3) := by decide +kernel
theorem dX11_describe_7 : decode cX11_describe 7 = .ok (.aload_n 0, 1) := by decide +kernel
theorem dX11_describe_8 : decode cX11_describe 8 = .ok (.getfield 53, 3) := by decide +kernel
theorem dX11_describe_11 : decode cX11_describe 11 = .ok (.invokevirtual 97, 3) := by decide +kernel
theorem dX11_describe_14 : decode cX11_describe 14 = .ok (.istore_n 1, 1) := by decide +kernel
theorem dX11_describe_15 : decode cX11_describe 15 = .ok (.aload_n 0, 1) := by decide +kernel
theorem dX11_describe_16 : decode cX11_describe 16 = .ok (.getfield 21, 3) := by decide +kernel
theorem dX11_describe_19 : decode cX11_describe 19 = .ok (.iconst 0, 1) := by decide +kernel
theorem dX11_describe_20 : decode cX11_describe 20 = .ok (.putfield 81, 3) := by decide +kernel
theorem dX11_describe_23 : decode cX11_describe 23 = .ok (.iload_n 1, 1) := by decide +kernel
theorem dX11_describe_24 : decode cX11_describe 24 = .ok (.ifCond .ne 13, 3) := by decide +kernel
theorem dX11_describe_27 : decode cX11_describe 27 = .ok (.new 101, 3) := by decide +kernel
theorem dX11_describe_30 : decode cX11_describe 30 = .ok (.dup, 1) := by decide +kernel
theorem dX11_describe_31 : decode cX11_describe 31 = .ok (.ldc 103, 2) := by decide +kernel
theorem dX11_describe_33 : decode cX11_describe 33 = .ok (.invokespecial 105, 3) := by decide +kernel
theorem dX11_describe_36 : decode cX11_describe 36 = .ok (.athrow, 1) := by decide +kernel
theorem dX11_describe_37 : decode cX11_describe 37 = .ok (.aload_n 0, 1) := by decide +kernel
theorem dX11_describe_38 : decode cX11_describe 38 = .ok (.getfield 31, 3) := by decide +kernel
theorem dX11_describe_41 : decode cX11_describe 41 = .ok (.getfield 106, 3) := by decide +kernel
theorem dX11_describe_44 : decode cX11_describe 44 = .ok (.ireturn, 1) := by decide +kernel
theorem dX11_assemble_0 : decode cX11_assemble 0 = .ok (.aload_n 0, 1) := by decide +kernel
theorem dX11_assemble_1 : decode cX11_assemble 1 = .ok (.getfield 31, 3) := by decide +kernel
theorem dX11_assemble_4 : decode cX11_assemble 4 = .ok (.getfield 109, 3) := by decide +kernel
theorem dX11_assemble_7 : decode cX11_assemble 7 = .ok (.ifCond .ne 13, 3) := by decide +kernel
theorem dX11_assemble_10 : decode cX11_assemble 10 = .ok (.new 70, 3) := by decide +kernel
theorem dX11_assemble_13 : decode cX11_assemble 13 = .ok (.dup, 1) := by decide +kernel
theorem dX11_assemble_14 : decode cX11_assemble 14 = .ok (.ldc 112, 2) := by decide +kernel
theorem dX11_assemble_16 : decode cX11_assemble 16 = .ok (.invokespecial 74, 3) := by decide +kernel
theorem dX11_assemble_19 : decode cX11_assemble 19 = .ok (.athrow, 1) := by decide +kernel
theorem dX11_assemble_20 : decode cX11_assemble 20 = .ok (.aload_n 0, 1) := by decide +kernel
theorem dX11_assemble_21 : decode cX11_assemble 21 = .ok (.getfield 62, 3) := by decide +kernel
theorem dX11_assemble_24 : decode cX11_assemble 24 = .ok (.invokevirtual 94, 3) := by decide +kernel
theorem dX11_assemble_27 : decode cX11_assemble 27 = .ok (.aload_n 0, 1) := by decide +kernel
theorem dX11_assemble_28 : decode cX11_assemble 28 = .ok (.getfield 62, 3) := by decide +kernel
theorem dX11_assemble_31 : decode cX11_assemble 31 = .ok (.invokevirtual 114, 3) := by decide +kernel
theorem dX11_assemble_34 : decode cX11_assemble 34 = .ok (.ifCond .eq 27, 3) := by decide +kernel
theorem dX11_assemble_37 : decode cX11_assemble 37 = .ok (.aload_n 0, 1) := by decide +kernel
theorem dX11_assemble_38 : decode cX11_assemble 38 = .ok (.getfield 62, 3) := by decide +kernel
theorem dX11_assemble_41 : decode cX11_assemble 41 = .ok (.invokevirtual 115, 3) := by decide +kernel
theorem dX11_assemble_44 : decode cX11_assemble 44 = .ok (.ifCond .eq 17, 3) := by decide +kernel
theorem dX11_assemble_47 : decode cX11_assemble 47 = .ok (.aload_n 0, 1) := by decide +kernel
theorem dX11_assemble_48 : decode cX11_assemble 48 = .ok (.getfield 62, 3) := by decide +kernel
theorem dX11_assemble_51 : decode cX11_assemble 51 = .ok (.invokevirtual 118, 3) := by decide +kernel
theorem dX11_assemble_54 : decode cX11_assemble 54 = .ok (.ifCond .eq 7, 3) := by decide +kernel
theorem dX11_assemble_57 : decode cX11_assemble 57 = .ok (.iconst 1, 1) := by decide +kernel
theorem dX11_assemble_58 : decode cX11_assemble 58 = .ok (.goto 4, 3) := by decide +kernel
theorem dX11_assemble_61 : decode cX11_assemble 61 = .ok (.iconst 0, 1) := by decide +kernel
theorem dX11_assemble_62 : decode cX11_assemble 62 = .ok (.istore_n 1, 1) := by decide +kernel
theorem dX11_assemble_63 : decode cX11_assemble 63 = .ok (.aload_n 0, 1) := by decide +kernel
theorem dX11_assemble_64 : decode cX11_assemble 64 = .ok (.getfield 21, 3) := by decide +kernel
theorem dX11_assemble_67 : decode cX11_assemble 67 = .ok (.iconst 0, 1) := by decide +kernel
theorem dX11_assemble_68 : decode cX11_assemble 68 = .ok (.putfield 81, 3) := by decide +kernel
theorem dX11_assemble_71 : decode cX11_assemble 71 = .ok (.iload_n 1, 1) := by decide +kernel
theorem dX11_assemble_72 : decode cX11_assemble 72 = .ok (.ifCond .ne 20, 3) := by decide +kernel
theorem dX11_assemble_75 : decode cX11_assemble 75 = .ok (.aload_n 0, 1) := by decide +kernel
theorem dX11_assemble_76 : decode cX11_assemble 76 = .ok (.getfield 62, 3) := by decide +kernel
theorem dX11_assemble_79 : decode cX11_assemble 79 = .ok (.invokevirtual 94, 3) := by decide +kernel
theorem dX11_assemble_82 : decode cX11_assemble 82 = .ok (.new 101, 3) := by decide +kernel
theorem dX11_assemble_85 : decode cX11_assemble 85 = .ok (.dup, 1) := by decide +kernel
theorem dX11_assemble_86 : decode cX11_assemble 86 = .ok (.ldc 121, 2) := by decide +kernel
theorem dX11_assemble_88 : decode cX11_assemble 88 = .ok (.invokespecial 105, 3) := by decide +kernel
theorem dX11_assemble_91 : decode cX11_assemble 91 = .ok (.athrow, 1) := by decide +kernel
theorem dX11_assemble_92 : decode cX11_assemble 92 = .ok (.aload_n 0, 1) := by decide +kernel
theorem dX11_assemble_93 : decode cX11_assemble 93 = .ok (.getfield 35, 3) := by decide +kernel
theorem dX11_assemble_96 : decode cX11_assemble 96 = .ok (.getfield 123, 3) := by decide +kernel
theorem dX11_assemble_99 : decode cX11_assemble 99 = .ok (.ireturn, 1) := by decide +kernel
theorem dX11_kind_0 : decode cX11_kind 0 = .ok (.aload_n 0, 1) := by decide +kernel
theorem dX11_kind_1 : decode cX11_kind 1 = .ok (.getfield 27, 3) := by decide +kernel
theorem dX11_kind_4 : decode cX11_kind 4 = .ok (.getfield 126, 3) := by decide +kernel
theorem dX11_kind_7 : decode cX11_kind 7 = .ok (.ireturn, 1) := by decide +kernel
theorem dX11_place_0 : decode cX11_place 0 = .ok (.aload_n 0, 1) := by decide +kernel
theorem dX11_place_1 : decode cX11_place 1 = .ok (.getfield 27, 3) := by decide +kernel
theorem dX11_place_4 : decode cX11_place 4 = .ok (.getfield 129, 3) := by decide +kernel
theorem dX11_place_7 : decode cX11_place 7 = .ok (.ireturn, 1) := by decide +kernel
theorem dX11_word_0 : decode cX11_word 0 = .ok (.aload_n 0, 1) := by decide +kernel
theorem dX11_word_1 : decode cX11_word 1 = .ok (.getfield 35, 3) := by decide +kernel
theorem dX11_word_4 : decode cX11_word 4 = .ok (.iload_n 1, 1) := by decide +kernel
theorem dX11_word_5 : decode cX11_word 5 = .ok (.invokevirtual 132, 3) := by decide +kernel
theorem dX11_word_8 : decode cX11_word 8 = .ok (.ifCond .ne 13, 3) := by decide +kernel
theorem dX11_word_11 : decode cX11_word 11 = .ok (.new 135, 3) := by decide +kernel
theorem dX11_word_14 : decode cX11_word 14 = .ok (.dup, 1) := by decide +kernel
theorem dX11_word_15 : decode cX11_word 15 = .ok (.ldc 137, 2) := by decide +kernel
theorem dX11_word_17 : decode cX11_word 17 = .ok (.invokespecial 139, 3) := by decide +kernel
theorem dX11_word_20 : decode cX11_word 20 = .ok (.athrow, 1) := by decide +kernel
theorem dX11_word_21 : decode cX11_word 21 = .ok (.aload_n 0, 1) := by decide +kernel
theorem dX11_word_22 : decode cX11_word 22 = .ok (.getfield 35, 3) := by decide +kernel
theorem dX11_word_25 : decode cX11_word 25 = .ok (.getfield 140, 3) := by decide +kernel
theorem dX11_word_28 : decode cX11_word 28 = .ok (.iload_n 1, 1) := by decide +kernel
theorem dX11_word_29 : decode cX11_word 29 = .ok (.laload, 1) := by decide +kernel
theorem dX11_word_30 : decode cX11_word 30 = .ok (.lreturn, 1) := by decide +kernel
theorem dX11_poke_0 : decode cX11_poke 0 = .ok (.aload_n 0, 1) := by decide +kernel
theorem dX11_poke_1 : decode cX11_poke 1 = .ok (.getfield 31, 3) := by decide +kernel
theorem dX11_poke_4 : decode cX11_poke 4 = .ok (.getfield 109, 3) := by decide +kernel
theorem dX11_poke_7 : decode cX11_poke 7 = .ok (.ifCond .ne 13, 3) := by decide +kernel
theorem dX11_poke_10 : decode cX11_poke 10 = .ok (.new 70, 3) := by decide +kernel
theorem dX11_poke_13 : decode cX11_poke 13 = .ok (.dup, 1) := by decide +kernel
theorem dX11_poke_14 : decode cX11_poke 14 = .ok (.ldc 112, 2) := by decide +kernel
theorem dX11_poke_16 : decode cX11_poke 16 = .ok (.invokespecial 74, 3) := by decide +kernel
theorem dX11_poke_19 : decode cX11_poke 19 = .ok (.athrow, 1) := by decide +kernel
theorem dX11_poke_20 : decode cX11_poke 20 = .ok (.iload_n 1, 1) := by decide +kernel
theorem dX11_poke_21 : decode cX11_poke 21 = .ok (.ifCond .lt 28, 3) := by decide +kernel
theorem dX11_poke_24 : decode cX11_poke 24 = .ok (.iload_n 1, 1) := by decide +kernel
theorem dX11_poke_25 : decode cX11_poke 25 = .ok (.sipush 4096, 3) := by decide +kernel
theorem dX11_poke_28 : decode cX11_poke 28 = .ok (.if_icmp .ge 21, 3) := by decide +kernel
theorem dX11_poke_31 : decode cX11_poke 31 = .ok (.lload_n 2, 1) := by decide +kernel
theorem dX11_poke_32 : decode cX11_poke 32 = .ok (.lconst 0, 1) := by decide +kernel
theorem dX11_poke_33 : decode cX11_poke 33 = .ok (.lcmp, 1) := by decide +kernel
theorem dX11_poke_34 : decode cX11_poke 34 = .ok (.ifCond .lt 15, 3) := by decide +kernel
theorem dX11_poke_37 : decode cX11_poke 37 = .ok (.lload_n 2, 1) := by decide +kernel
theorem dX11_poke_38 : decode cX11_poke 38 = .ok (.aload_n 0, 1) := by decide +kernel
theorem dX11_poke_39 : decode cX11_poke 39 = .ok (.getfield 31, 3) := by decide +kernel
theorem dX11_poke_42 : decode cX11_poke 42 = .ok (.invokevirtual 144, 3) := by decide +kernel
theorem dX11_poke_45 : decode cX11_poke 45 = .ok (.lcmp, 1) := by decide +kernel
theorem dX11_poke_46 : decode cX11_poke 46 = .ok (.ifCond .le 13, 3) := by decide +kernel
theorem dX11_poke_49 : decode cX11_poke 49 = .ok (.new 85, 3) := by decide +kernel
theorem dX11_poke_52 : decode cX11_poke 52 = .ok (.dup, 1) := by decide +kernel
theorem dX11_poke_53 : decode cX11_poke 53 = .ok (.ldc 148, 2) := by decide +kernel
theorem dX11_poke_55 : decode cX11_poke 55 = .ok (.invokespecial 89, 3) := by decide +kernel
theorem dX11_poke_58 : decode cX11_poke 58 = .ok (.athrow, 1) := by decide +kernel
theorem dX11_poke_59 : decode cX11_poke 59 = .ok (.aload_n 0, 1) := by decide +kernel
theorem dX11_poke_60 : decode cX11_poke 60 = .ok (.getfield 35, 3) := by decide +kernel
theorem dX11_poke_63 : decode cX11_poke 63 = .ok (.iload_n 1, 1) := by decide +kernel
theorem dX11_poke_64 : decode cX11_poke 64 = .ok (.lload_n 2, 1) := by decide +kernel
theorem dX11_poke_65 : decode cX11_poke 65 = .ok (.invokevirtual 150, 3) := by decide +kernel
theorem dX11_poke_68 : decode cX11_poke 68 = .ok (.aload_n 0, 1) := by decide +kernel
theorem dX11_poke_69 : decode cX11_poke 69 = .ok (.getfield 35, 3) := by decide +kernel
theorem dX11_poke_72 : decode cX11_poke 72 = .ok (.getfield 123, 3) := by decide +kernel
theorem dX11_poke_75 : decode cX11_poke 75 = .ok (.ireturn, 1) := by decide +kernel
theorem dX11_list_0 : decode cX11_list 0 = .ok (.aload_n 0, 1) := by decide +kernel
theorem dX11_list_1 : decode cX11_list 1 = .ok (.getfield 35, 3) := by decide +kernel
theorem dX11_list_4 : decode cX11_list 4 = .ok (.iload_n 1, 1) := by decide +kernel
theorem dX11_list_5 : decode cX11_list 5 = .ok (.invokevirtual 132, 3) := by decide +kernel
theorem dX11_list_8 : decode cX11_list 8 = .ok (.ifCond .ne 13, 3) := by decide +kernel
theorem dX11_list_11 : decode cX11_list 11 = .ok (.new 135, 3) := by decide +kernel
theorem dX11_list_14 : decode cX11_list 14 = .ok (.dup, 1) := by decide +kernel
theorem dX11_list_15 : decode cX11_list 15 = .ok (.ldc 137, 2) := by decide +kernel
theorem dX11_list_17 : decode cX11_list 17 = .ok (.invokespecial 139, 3) := by decide +kernel
theorem dX11_list_20 : decode cX11_list 20 = .ok (.athrow, 1) := by decide +kernel
theorem dX11_list_21 : decode cX11_list 21 = .ok (.aload_n 0, 1) := by decide +kernel
theorem dX11_list_22 : decode cX11_list 22 = .ok (.getfield 44, 3) := by decide +kernel
theorem dX11_list_25 : decode cX11_list 25 = .ok (.iload_n 1, 1) := by decide +kernel
theorem dX11_list_26 : decode cX11_list 26 = .ok (.invokevirtual 154, 3) := by decide +kernel
theorem dX11_list_29 : decode cX11_list 29 = .ok (.ireturn, 1) := by decide +kernel
theorem dX11_which_0 : decode cX11_which 0 = .ok (.aload_n 0, 1) := by decide +kernel
theorem dX11_which_1 : decode cX11_which 1 = .ok (.getfield 44, 3) := by decide +kernel
theorem dX11_which_4 : decode cX11_which 4 = .ok (.getfield 158, 3) := by decide +kernel
theorem dX11_which_7 : decode cX11_which 7 = .ok (.ireturn, 1) := by decide +kernel
theorem dX11_listing_0 : decode cX11_listing 0 = .ok (.iload_n 1, 1) := by decide +kernel
theorem dX11_listing_1 : decode cX11_listing 1 = .ok (.ifCond .lt 10, 3) := by decide +kernel
theorem dX11_listing_4 : decode cX11_listing 4 = .ok (.iload_n 1, 1) := by decide +kernel
theorem dX11_listing_5 : decode cX11_listing 5 = .ok (.sipush 300, 3) := by decide +kernel
theorem dX11_listing_8 : decode cX11_listing 8 = .ok (.if_icmp .le 13, 3) := by decide +kernel
theorem dX11_listing_11 : decode cX11_listing 11 = .ok (.new 85, 3) := by decide +kernel
theorem dX11_listing_14 : decode cX11_listing 14 = .ok (.dup, 1) := by decide +kernel
theorem dX11_listing_15 : decode cX11_listing 15 = .ok (.ldc 161, 2) := by decide +kernel
theorem dX11_listing_17 : decode cX11_listing 17 = .ok (.invokespecial 89, 3) := by decide +kernel
theorem dX11_listing_20 : decode cX11_listing 20 = .ok (.athrow, 1) := by decide +kernel
theorem dX11_listing_21 : decode cX11_listing 21 = .ok (.aload_n 0, 1) := by decide +kernel
theorem dX11_listing_22 : decode cX11_listing 22 = .ok (.getfield 44, 3) := by decide +kernel
theorem dX11_listing_25 : decode cX11_listing 25 = .ok (.iload_n 1, 1) := by decide +kernel
theorem dX11_listing_26 : decode cX11_listing 26 = .ok (.invokevirtual 163, 3) := by decide +kernel
theorem dX11_listing_29 : decode cX11_listing 29 = .ok (.lreturn, 1) := by decide +kernel
theorem dX11_quote_0 : decode cX11_quote 0 = .ok (.aload_n 0, 1) := by decide +kernel
theorem dX11_quote_1 : decode cX11_quote 1 = .ok (.getfield 21, 3) := by decide +kernel
theorem dX11_quote_4 : decode cX11_quote 4 = .ok (.aload_n 0, 1) := by decide +kernel
theorem dX11_quote_5 : decode cX11_quote 5 = .ok (.getfield 44, 3) := by decide +kernel
theorem dX11_quote_8 : decode cX11_quote 8 = .ok (.getfield 167, 3) := by decide +kernel
theorem dX11_quote_11 : decode cX11_quote 11 = .ok (.iconst 1, 1) := by decide +kernel
theorem dX11_quote_12 : decode cX11_quote 12 = .ok (.iadd, 1) := by decide +kernel
theorem dX11_quote_13 : decode cX11_quote 13 = .ok (.invokevirtual 66, 3) := by decide +kernel
theorem dX11_quote_16 : decode cX11_quote 16 = .ok (.ifCond .ne 13, 3) := by decide +kernel
theorem dX11_quote_19 : decode cX11_quote 19 = .ok (.new 70, 3) := by decide +kernel
theorem dX11_quote_22 : decode cX11_quote 22 = .ok (.dup, 1) := by decide +kernel
theorem dX11_quote_23 : decode cX11_quote 23 = .ok (.ldc 72, 2) := by decide +kernel
theorem dX11_quote_25 : decode cX11_quote 25 = .ok (.invokespecial 74, 3) := by decide +kernel
theorem dX11_quote_28 : decode cX11_quote 28 = .ok (.athrow, 1) := by decide +kernel
theorem dX11_quote_29 : decode cX11_quote 29 = .ok (.iconst 0, 1) := by decide +kernel
theorem dX11_quote_30 : decode cX11_quote 30 = .ok (.istore_n 1, 1) := by decide +kernel
theorem dX11_quote_31 : decode cX11_quote 31 = .ok (.iload_n 1, 1) := by decide +kernel
theorem dX11_quote_32 : decode cX11_quote 32 = .ok (.aload_n 0, 1) := by decide +kernel
theorem dX11_quote_33 : decode cX11_quote 33 = .ok (.getfield 44, 3) := by decide +kernel
theorem dX11_quote_36 : decode cX11_quote 36 = .ok (.getfield 167, 3) := by decide +kernel
theorem dX11_quote_39 : decode cX11_quote 39 = .ok (.if_icmp .ge 25, 3) := by decide +kernel
theorem dX11_quote_42 : decode cX11_quote 42 = .ok (.aload_n 0, 1) := by decide +kernel
theorem dX11_quote_43 : decode cX11_quote 43 = .ok (.getfield 21, 3) := by decide +kernel
theorem dX11_quote_46 : decode cX11_quote 46 = .ok (.aload_n 0, 1) := by decide +kernel
theorem dX11_quote_47 : decode cX11_quote 47 = .ok (.getfield 44, 3) := by decide +kernel
theorem dX11_quote_50 : decode cX11_quote 50 = .ok (.getfield 170, 3) := by decide +kernel
theorem dX11_quote_53 : decode cX11_quote 53 = .ok (.iload_n 1, 1) := by decide +kernel
theorem dX11_quote_54 : decode cX11_quote 54 = .ok (.baload, 1) := by decide +kernel
theorem dX11_quote_55 : decode cX11_quote 55 = .ok (.invokevirtual 174, 3) := by decide +kernel
theorem dX11_quote_58 : decode cX11_quote 58 = .ok (.iinc 1 1, 3) := by decide +kernel
theorem dX11_quote_61 : decode cX11_quote 61 = .ok (.goto (-30), 3) := by decide +kernel
theorem dX11_quote_64 : decode cX11_quote 64 = .ok (.aload_n 0, 1) := by decide +kernel
theorem dX11_quote_65 : decode cX11_quote 65 = .ok (.getfield 21, 3) := by decide +kernel
theorem dX11_quote_68 : decode cX11_quote 68 = .ok (.bipush 10, 2) := by decide +kernel
theorem dX11_quote_70 : decode cX11_quote 70 = .ok (.invokevirtual 174, 3) := by decide +kernel
theorem dX11_quote_73 : decode cX11_quote 73 = .ok (.aload_n 0, 1) := by decide +kernel
theorem dX11_quote_74 : decode cX11_quote 74 = .ok (.getfield 21, 3) := by decide +kernel
theorem dX11_quote_77 : decode cX11_quote 77 = .ok (.getfield 81, 3) := by decide +kernel
theorem dX11_quote_80 : decode cX11_quote 80 = .ok (.ireturn, 1) := by decide +kernel
