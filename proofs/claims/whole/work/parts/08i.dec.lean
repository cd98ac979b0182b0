theorem dX13_lay_0 : decode cX13_lay 0 = .ok (.aload_n 0, 1) := by decide +kernel
theorem dX13_lay_1 : decode cX13_lay 1 = .ok (.getfield 117, 3) := by decide +kernel
theorem dX13_lay_4 : decode cX13_lay 4 = .ok (.iload_n 1, 1) := by decide +kernel
theorem dX13_lay_5 : decode cX13_lay 5 = .ok (.iaload, 1) := by decide +kernel
theorem dX13_lay_6 : decode cX13_lay 6 = .ok (.istore_n 2, 1) := by decide +kernel
theorem dX13_lay_7 : decode cX13_lay 7 = .ok (.aload_n 0, 1) := by decide +kernel
theorem dX13_lay_8 : decode cX13_lay 8 = .ok (.getfield 114, 3) := by decide +kernel
theorem dX13_lay_11 : decode cX13_lay 11 = .ok (.iload_n 1, 1) := by decide +kernel
theorem dX13_lay_12 : decode cX13_lay 12 = .ok (.iaload, 1) := by decide +kernel
theorem dX13_lay_13 : decode cX13_lay 13 = .ok (.istore_n 3, 1) := by decide +kernel
theorem dX13_lay_14 : decode cX13_lay 14 = .ok (.aload_n 0, 1) := by decide +kernel
theorem dX13_lay_15 : decode cX13_lay 15 = .ok (.getfield 111, 3) := by decide +kernel
theorem dX13_lay_18 : decode cX13_lay 18 = .ok (.iload_n 1, 1) := by decide +kernel
theorem dX13_lay_19 : decode cX13_lay 19 = .ok (.iaload, 1) := by decide +kernel
theorem dX13_lay_20 : decode cX13_lay 20 = .ok (.iconst 2, 1) := by decide +kernel
theorem dX13_lay_21 : decode cX13_lay 21 = .ok (.if_icmp .ne 53, 3) := by decide +kernel
theorem dX13_lay_24 : decode cX13_lay 24 = .ok (.iconst 0, 1) := by decide +kernel
theorem dX13_lay_25 : decode cX13_lay 25 = .ok (.istore 4, 2) := by decide +kernel
theorem dX13_lay_27 : decode cX13_lay 27 = .ok (.iload 4, 2) := by decide +kernel
theorem dX13_lay_29 : decode cX13_lay 29 = .ok (.aload_n 0, 1) := by decide +kernel
theorem dX13_lay_30 : decode cX13_lay 30 = .ok (.getfield 120, 3) := by decide +kernel
theorem dX13_lay_33 : decode cX13_lay 33 = .ok (.iload_n 1, 1) := by decide +kernel
theorem dX13_lay_34 : decode cX13_lay 34 = .ok (.iaload, 1) := by decide +kernel
theorem dX13_lay_35 : decode cX13_lay 35 = .ok (.if_icmp .ge 36, 3) := by decide +kernel
theorem dX13_lay_38 : decode cX13_lay 38 = .ok (.aload_n 0, 1) := by decide +kernel
theorem dX13_lay_39 : decode cX13_lay 39 = .ok (.iload_n 1, 1) := by decide +kernel
theorem dX13_lay_40 : decode cX13_lay 40 = .ok (.iload_n 2, 1) := by decide +kernel
theorem dX13_lay_41 : decode cX13_lay 41 = .ok (.iload 4, 2) := by decide +kernel
theorem dX13_lay_43 : decode cX13_lay 43 = .ok (.iadd, 1) := by decide +kernel
theorem dX13_lay_44 : decode cX13_lay 44 = .ok (.aload_n 0, 1) := by decide +kernel
theorem dX13_lay_45 : decode cX13_lay 45 = .ok (.getfield 36, 3) := by decide +kernel
theorem dX13_lay_48 : decode cX13_lay 48 = .ok (.aload_n 0, 1) := by decide +kernel
theorem dX13_lay_49 : decode cX13_lay 49 = .ok (.getfield 108, 3) := by decide +kernel
theorem dX13_lay_52 : decode cX13_lay 52 = .ok (.iload_n 1, 1) := by decide +kernel
theorem dX13_lay_53 : decode cX13_lay 53 = .ok (.iaload, 1) := by decide +kernel
theorem dX13_lay_54 : decode cX13_lay 54 = .ok (.iconst 2, 1) := by decide +kernel
theorem dX13_lay_55 : decode cX13_lay 55 = .ok (.iadd, 1) := by decide +kernel
theorem dX13_lay_56 : decode cX13_lay 56 = .ok (.iconst 2, 1) := by decide +kernel
theorem dX13_lay_57 : decode cX13_lay 57 = .ok (.iload 4, 2) := by decide +kernel
theorem dX13_lay_59 : decode cX13_lay 59 = .ok (.imul, 1) := by decide +kernel
theorem dX13_lay_60 : decode cX13_lay 60 = .ok (.iadd, 1) := by decide +kernel
theorem dX13_lay_61 : decode cX13_lay 61 = .ok (.laload, 1) := by decide +kernel
theorem dX13_lay_62 : decode cX13_lay 62 = .ok (.invokevirtual 333, 3) := by decide +kernel
theorem dX13_lay_65 : decode cX13_lay 65 = .ok (.iinc 4 1, 3) := by decide +kernel
theorem dX13_lay_68 : decode cX13_lay 68 = .ok (.goto (-41), 3) := by decide +kernel
theorem dX13_lay_71 : decode cX13_lay 71 = .ok (.goto 136, 3) := by decide +kernel
theorem dX13_lay_74 : decode cX13_lay 74 = .ok (.aload_n 0, 1) := by decide +kernel
theorem dX13_lay_75 : decode cX13_lay 75 = .ok (.getfield 111, 3) := by decide +kernel
theorem dX13_lay_78 : decode cX13_lay 78 = .ok (.iload_n 1, 1) := by decide +kernel
theorem dX13_lay_79 : decode cX13_lay 79 = .ok (.iaload, 1) := by decide +kernel
theorem dX13_lay_80 : decode cX13_lay 80 = .ok (.iconst 1, 1) := by decide +kernel
theorem dX13_lay_81 : decode cX13_lay 81 = .ok (.if_icmp .ne 126, 3) := by decide +kernel
theorem dX13_lay_84 : decode cX13_lay 84 = .ok (.aload_n 0, 1) := by decide +kernel
theorem dX13_lay_85 : decode cX13_lay 85 = .ok (.iload_n 1, 1) := by decide +kernel
theorem dX13_lay_86 : decode cX13_lay 86 = .ok (.iload_n 3, 1) := by decide +kernel
theorem dX13_lay_87 : decode cX13_lay 87 = .ok (.invokevirtual 315, 3) := by decide +kernel
theorem dX13_lay_90 : decode cX13_lay 90 = .ok (.pop, 1) := by decide +kernel
theorem dX13_lay_91 : decode cX13_lay 91 = .ok (.iconst 0, 1) := by decide +kernel
theorem dX13_lay_92 : decode cX13_lay 92 = .ok (.istore 4, 2) := by decide +kernel
theorem dX13_lay_94 : decode cX13_lay 94 = .ok (.iload 4, 2) := by decide +kernel
theorem dX13_lay_96 : decode cX13_lay 96 = .ok (.aload_n 0, 1) := by decide +kernel
theorem dX13_lay_97 : decode cX13_lay 97 = .ok (.getfield 77, 3) := by decide +kernel
theorem dX13_lay_100 : decode cX13_lay 100 = .ok (.iload_n 3, 1) := by decide +kernel
theorem dX13_lay_101 : decode cX13_lay 101 = .ok (.iaload, 1) := by decide +kernel
theorem dX13_lay_102 : decode cX13_lay 102 = .ok (.if_icmp .ge 105, 3) := by decide +kernel
theorem dX13_lay_105 : decode cX13_lay 105 = .ok (.lconst 0, 1) := by decide +kernel
theorem dX13_lay_106 : decode cX13_lay 106 = .ok (.lstore 5, 2) := by decide +kernel
theorem dX13_lay_108 : decode cX13_lay 108 = .ok (.iconst 0, 1) := by decide +kernel
theorem dX13_lay_109 : decode cX13_lay 109 = .ok (.istore 7, 2) := by decide +kernel
theorem dX13_lay_111 : decode cX13_lay 111 = .ok (.iload 7, 2) := by decide +kernel
theorem dX13_lay_113 : decode cX13_lay 113 = .ok (.aload_n 0, 1) := by decide +kernel
theorem dX13_lay_114 : decode cX13_lay 114 = .ok (.getfield 217, 3) := by decide +kernel
theorem dX13_lay_117 : decode cX13_lay 117 = .ok (.if_icmp .ge 73, 3) := by decide +kernel
theorem dX13_lay_120 : decode cX13_lay 120 = .ok (.aload_n 0, 1) := by decide +kernel
theorem dX13_lay_121 : decode cX13_lay 121 = .ok (.getfield 92, 3) := by decide +kernel
theorem dX13_lay_124 : decode cX13_lay 124 = .ok (.sipush 160, 3) := by decide +kernel
theorem dX13_lay_127 : decode cX13_lay 127 = .ok (.iload_n 3, 1) := by decide +kernel
theorem dX13_lay_128 : decode cX13_lay 128 = .ok (.imul, 1) := by decide +kernel
theorem dX13_lay_129 : decode cX13_lay 129 = .ok (.iload 4, 2) := by decide +kernel
theorem dX13_lay_131 : decode cX13_lay 131 = .ok (.aload_n 0, 1) := by decide +kernel
theorem dX13_lay_132 : decode cX13_lay 132 = .ok (.getfield 217, 3) := by decide +kernel
theorem dX13_lay_135 : decode cX13_lay 135 = .ok (.imul, 1) := by decide +kernel
theorem dX13_lay_136 : decode cX13_lay 136 = .ok (.iadd, 1) := by decide +kernel
theorem dX13_lay_137 : decode cX13_lay 137 = .ok (.iload 7, 2) := by decide +kernel
theorem dX13_lay_139 : decode cX13_lay 139 = .ok (.iadd, 1) := by decide +kernel
theorem dX13_lay_140 : decode cX13_lay 140 = .ok (.iaload, 1) := by decide +kernel
theorem dX13_lay_141 : decode cX13_lay 141 = .ok (.istore 8, 2) := by decide +kernel
theorem dX13_lay_143 : decode cX13_lay 143 = .ok (.ldc2_w 337, 3) := by decide +kernel
theorem dX13_lay_146 : decode cX13_lay 146 = .ok (.lload 5, 2) := by decide +kernel
theorem dX13_lay_148 : decode cX13_lay 148 = .ok (.lmul, 1) := by decide +kernel
theorem dX13_lay_149 : decode cX13_lay 149 = .ok (.iload 8, 2) := by decide +kernel
theorem dX13_lay_151 : decode cX13_lay 151 = .ok (.ifCond .ge 11, 3) := by decide +kernel
theorem dX13_lay_154 : decode cX13_lay 154 = .ok (.iconst (-1), 1) := by decide +kernel
theorem dX13_lay_155 : decode cX13_lay 155 = .ok (.iload 8, 2) := by decide +kernel
theorem dX13_lay_157 : decode cX13_lay 157 = .ok (.isub, 1) := by decide +kernel
theorem dX13_lay_158 : decode cX13_lay 158 = .ok (.i2l, 1) := by decide +kernel
theorem dX13_lay_159 : decode cX13_lay 159 = .ok (.goto 22, 3) := by decide +kernel
theorem dX13_lay_162 : decode cX13_lay 162 = .ok (.aload_n 0, 1) := by decide +kernel
theorem dX13_lay_163 : decode cX13_lay 163 = .ok (.iload_n 1, 1) := by decide +kernel
theorem dX13_lay_164 : decode cX13_lay 164 = .ok (.iload_n 3, 1) := by decide +kernel
theorem dX13_lay_165 : decode cX13_lay 165 = .ok (.iload 8, 2) := by decide +kernel
theorem dX13_lay_167 : decode cX13_lay 167 = .ok (.bipush 32, 2) := by decide +kernel
theorem dX13_lay_169 : decode cX13_lay 169 = .ok (.idiv, 1) := by decide +kernel
theorem dX13_lay_170 : decode cX13_lay 170 = .ok (.invokevirtual 311, 3) := by decide +kernel
theorem dX13_lay_173 : decode cX13_lay 173 = .ok (.iload 8, 2) := by decide +kernel
theorem dX13_lay_175 : decode cX13_lay 175 = .ok (.bipush 32, 2) := by decide +kernel
theorem dX13_lay_177 : decode cX13_lay 177 = .ok (.irem, 1) := by decide +kernel
theorem dX13_lay_178 : decode cX13_lay 178 = .ok (.lshr, 1) := by decide +kernel
theorem dX13_lay_179 : decode cX13_lay 179 = .ok (.lconst 1, 1) := by decide +kernel
theorem dX13_lay_180 : decode cX13_lay 180 = .ok (.land, 1) := by decide +kernel
theorem dX13_lay_181 : decode cX13_lay 181 = .ok (.ladd, 1) := by decide +kernel
theorem dX13_lay_182 : decode cX13_lay 182 = .ok (.lstore 5, 2) := by decide +kernel
theorem dX13_lay_184 : decode cX13_lay 184 = .ok (.iinc 7 1, 3) := by decide +kernel
theorem dX13_lay_187 : decode cX13_lay 187 = .ok (.goto (-76), 3) := by decide +kernel
theorem dX13_lay_190 : decode cX13_lay 190 = .ok (.aload_n 0, 1) := by decide +kernel
theorem dX13_lay_191 : decode cX13_lay 191 = .ok (.iload_n 1, 1) := by decide +kernel
theorem dX13_lay_192 : decode cX13_lay 192 = .ok (.iload_n 2, 1) := by decide +kernel
theorem dX13_lay_193 : decode cX13_lay 193 = .ok (.iload 4, 2) := by decide +kernel
theorem dX13_lay_195 : decode cX13_lay 195 = .ok (.iadd, 1) := by decide +kernel
theorem dX13_lay_196 : decode cX13_lay 196 = .ok (.lload 5, 2) := by decide +kernel
theorem dX13_lay_198 : decode cX13_lay 198 = .ok (.invokevirtual 333, 3) := by decide +kernel
theorem dX13_lay_201 : decode cX13_lay 201 = .ok (.iinc 4 1, 3) := by decide +kernel
theorem dX13_lay_204 : decode cX13_lay 204 = .ok (.goto (-110), 3) := by decide +kernel
theorem dX13_lay_207 : decode cX13_lay 207 = .ok (.return_, 1) := by decide +kernel
theorem dX13_assembled_0 : decode cX13_assembled 0 = .ok (.aload_n 0, 1) := by decide +kernel
theorem dX13_assembled_1 : decode cX13_assembled 1 = .ok (.invokevirtual 226, 3) := by decide +kernel
theorem dX13_assembled_4 : decode cX13_assembled 4 = .ok (.aload_n 0, 1) := by decide +kernel
theorem dX13_assembled_5 : decode cX13_assembled 5 = .ok (.invokevirtual 318, 3) := by decide +kernel
theorem dX13_assembled_8 : decode cX13_assembled 8 = .ok (.iconst 0, 1) := by decide +kernel
theorem dX13_assembled_9 : decode cX13_assembled 9 = .ok (.istore_n 1, 1) := by decide +kernel
theorem dX13_assembled_10 : decode cX13_assembled 10 = .ok (.iload_n 1, 1) := by decide +kernel
theorem dX13_assembled_11 : decode cX13_assembled 11 = .ok (.aload_n 0, 1) := by decide +kernel
theorem dX13_assembled_12 : decode cX13_assembled 12 = .ok (.getfield 295, 3) := by decide +kernel
theorem dX13_assembled_15 : decode cX13_assembled 15 = .ok (.if_icmp .ge 59, 3) := by decide +kernel
theorem dX13_assembled_18 : decode cX13_assembled 18 = .ok (.aload_n 0, 1) := by decide +kernel
theorem dX13_assembled_19 : decode cX13_assembled 19 = .ok (.getfield 111, 3) := by decide +kernel
theorem dX13_assembled_22 : decode cX13_assembled 22 = .ok (.iload_n 1, 1) := by decide +kernel
theorem dX13_assembled_23 : decode cX13_assembled 23 = .ok (.iaload, 1) := by decide +kernel
theorem dX13_assembled_24 : decode cX13_assembled 24 = .ok (.iconst 1, 1) := by decide +kernel
theorem dX13_assembled_25 : decode cX13_assembled 25 = .ok (.if_icmp .eq 6, 3) := by decide +kernel
theorem dX13_assembled_28 : decode cX13_assembled 28 = .ok (.goto 40, 3) := by decide +kernel
theorem dX13_assembled_31 : decode cX13_assembled 31 = .ok (.aload_n 0, 1) := by decide +kernel
theorem dX13_assembled_32 : decode cX13_assembled 32 = .ok (.getfield 114, 3) := by decide +kernel
theorem dX13_assembled_35 : decode cX13_assembled 35 = .ok (.iload_n 1, 1) := by decide +kernel
theorem dX13_assembled_36 : decode cX13_assembled 36 = .ok (.aload_n 0, 1) := by decide +kernel
theorem dX13_assembled_37 : decode cX13_assembled 37 = .ok (.iload_n 1, 1) := by decide +kernel
theorem dX13_assembled_38 : decode cX13_assembled 38 = .ok (.iconst 0, 1) := by decide +kernel
theorem dX13_assembled_39 : decode cX13_assembled 39 = .ok (.invokevirtual 320, 3) := by decide +kernel
theorem dX13_assembled_42 : decode cX13_assembled 42 = .ok (.iastore, 1) := by decide +kernel
theorem dX13_assembled_43 : decode cX13_assembled 43 = .ok (.aload_n 0, 1) := by decide +kernel
theorem dX13_assembled_44 : decode cX13_assembled 44 = .ok (.getfield 114, 3) := by decide +kernel
theorem dX13_assembled_47 : decode cX13_assembled 47 = .ok (.iload_n 1, 1) := by decide +kernel
theorem dX13_assembled_48 : decode cX13_assembled 48 = .ok (.iaload, 1) := by decide +kernel
theorem dX13_assembled_49 : decode cX13_assembled 49 = .ok (.ifCond .ge 19, 3) := by decide +kernel
theorem dX13_assembled_52 : decode cX13_assembled 52 = .ok (.new 209, 3) := by decide +kernel
theorem dX13_assembled_55 : decode cX13_assembled 55 = .ok (.dup, 1) := by decide +kernel
theorem dX13_assembled_56 : decode cX13_assembled 56 = .ok (.bipush 6, 2) := by decide +kernel
theorem dX13_assembled_58 : decode cX13_assembled 58 = .ok (.aload_n 0, 1) := by decide +kernel
theorem dX13_assembled_59 : decode cX13_assembled 59 = .ok (.getfield 108, 3) := by decide +kernel
theorem dX13_assembled_62 : decode cX13_assembled 62 = .ok (.iload_n 1, 1) := by decide +kernel
theorem dX13_assembled_63 : decode cX13_assembled 63 = .ok (.iaload, 1) := by decide +kernel
theorem dX13_assembled_64 : decode cX13_assembled 64 = .ok (.invokespecial 211, 3) := by decide +kernel
theorem dX13_assembled_67 : decode cX13_assembled 67 = .ok (.athrow, 1) := by decide +kernel
theorem dX13_assembled_68 : decode cX13_assembled 68 = .ok (.iinc 1 1, 3) := by decide +kernel
theorem dX13_assembled_71 : decode cX13_assembled 71 = .ok (.goto (-61), 3) := by decide +kernel
theorem dX13_assembled_74 : decode cX13_assembled 74 = .ok (.iconst 0, 1) := by decide +kernel
theorem dX13_assembled_75 : decode cX13_assembled 75 = .ok (.istore_n 1, 1) := by decide +kernel
theorem dX13_assembled_76 : decode cX13_assembled 76 = .ok (.iload_n 1, 1) := by decide +kernel
theorem dX13_assembled_77 : decode cX13_assembled 77 = .ok (.ifCond .ne 126, 3) := by decide +kernel
theorem dX13_assembled_80 : decode cX13_assembled 80 = .ok (.aload_n 0, 1) := by decide +kernel
theorem dX13_assembled_81 : decode cX13_assembled 81 = .ok (.dup, 1) := by decide +kernel
theorem dX13_assembled_82 : decode cX13_assembled 82 = .ok (.getfield 289, 3) := by decide +kernel
theorem dX13_assembled_85 : decode cX13_assembled 85 = .ok (.iconst 1, 1) := by decide +kernel
theorem dX13_assembled_86 : decode cX13_assembled 86 = .ok (.iadd, 1) := by decide +kernel
theorem dX13_assembled_87 : decode cX13_assembled 87 = .ok (.putfield 289, 3) := by decide +kernel
theorem dX13_assembled_90 : decode cX13_assembled 90 = .ok (.aload_n 0, 1) := by decide +kernel
theorem dX13_assembled_91 : decode cX13_assembled 91 = .ok (.invokevirtual 324, 3) := by decide +kernel
theorem dX13_assembled_94 : decode cX13_assembled 94 = .ok (.iconst 1, 1) := by decide +kernel
theorem dX13_assembled_95 : decode cX13_assembled 95 = .ok (.istore_n 1, 1) := by decide +kernel
theorem dX13_assembled_96 : decode cX13_assembled 96 = .ok (.iconst 0, 1) := by decide +kernel
theorem dX13_assembled_97 : decode cX13_assembled 97 = .ok (.istore_n 2, 1) := by decide +kernel
theorem dX13_assembled_98 : decode cX13_assembled 98 = .ok (.iload_n 2, 1) := by decide +kernel
theorem dX13_assembled_99 : decode cX13_assembled 99 = .ok (.aload_n 0, 1) := by decide +kernel
theorem dX13_assembled_100 : decode cX13_assembled 100 = .ok (.getfield 295, 3) := by decide +kernel
theorem dX13_assembled_103 : decode cX13_assembled 103 = .ok (.if_icmp .ge 97, 3) := by decide +kernel
theorem dX13_assembled_106 : decode cX13_assembled 106 = .ok (.aload_n 0, 1) := by decide +kernel
theorem dX13_assembled_107 : decode cX13_assembled 107 = .ok (.getfield 111, 3) := by decide +kernel
theorem dX13_assembled_110 : decode cX13_assembled 110 = .ok (.iload_n 2, 1) := by decide +kernel
theorem dX13_assembled_111 : decode cX13_assembled 111 = .ok (.iaload, 1) := by decide +kernel
theorem dX13_assembled_112 : decode cX13_assembled 112 = .ok (.iconst 1, 1) := by decide +kernel
theorem dX13_assembled_113 : decode cX13_assembled 113 = .ok (.if_icmp .eq 6, 3) := by decide +kernel
theorem dX13_assembled_116 : decode cX13_assembled 116 = .ok (.goto 78, 3) := by decide +kernel
theorem dX13_assembled_119 : decode cX13_assembled 119 = .ok (.aload_n 0, 1) := by decide +kernel
theorem dX13_assembled_120 : decode cX13_assembled 120 = .ok (.iload_n 2, 1) := by decide +kernel
theorem dX13_assembled_121 : decode cX13_assembled 121 = .ok (.aload_n 0, 1) := by decide +kernel
theorem dX13_assembled_122 : decode cX13_assembled 122 = .ok (.getfield 114, 3) := by decide +kernel
theorem dX13_assembled_125 : decode cX13_assembled 125 = .ok (.iload_n 2, 1) := by decide +kernel
theorem dX13_assembled_126 : decode cX13_assembled 126 = .ok (.iaload, 1) := by decide +kernel
theorem dX13_assembled_127 : decode cX13_assembled 127 = .ok (.invokevirtual 315, 3) := by decide +kernel
theorem dX13_assembled_130 : decode cX13_assembled 130 = .ok (.pop, 1) := by decide +kernel
theorem dX13_assembled_131 : decode cX13_assembled 131 = .ok (.aload_n 0, 1) := by decide +kernel
theorem dX13_assembled_132 : decode cX13_assembled 132 = .ok (.iload_n 2, 1) := by decide +kernel
theorem dX13_assembled_133 : decode cX13_assembled 133 = .ok (.aload_n 0, 1) := by decide +kernel
theorem dX13_assembled_134 : decode cX13_assembled 134 = .ok (.getfield 114, 3) := by decide +kernel
theorem dX13_assembled_137 : decode cX13_assembled 137 = .ok (.iload_n 2, 1) := by decide +kernel
theorem dX13_assembled_138 : decode cX13_assembled 138 = .ok (.iaload, 1) := by decide +kernel
theorem dX13_assembled_139 : decode cX13_assembled 139 = .ok (.invokevirtual 327, 3) := by decide +kernel
theorem dX13_assembled_142 : decode cX13_assembled 142 = .ok (.ifCond .eq 6, 3) := by decide +kernel
theorem dX13_assembled_145 : decode cX13_assembled 145 = .ok (.goto 49, 3) := by decide +kernel
theorem dX13_assembled_148 : decode cX13_assembled 148 = .ok (.iconst 0, 1) := by decide +kernel
theorem dX13_assembled_149 : decode cX13_assembled 149 = .ok (.istore_n 1, 1) := by decide +kernel
theorem dX13_assembled_150 : decode cX13_assembled 150 = .ok (.aload_n 0, 1) := by decide +kernel
theorem dX13_assembled_151 : decode cX13_assembled 151 = .ok (.getfield 114, 3) := by decide +kernel
theorem dX13_assembled_154 : decode cX13_assembled 154 = .ok (.iload_n 2, 1) := by decide +kernel
theorem dX13_assembled_155 : decode cX13_assembled 155 = .ok (.aload_n 0, 1) := by decide +kernel
theorem dX13_assembled_156 : decode cX13_assembled 156 = .ok (.iload_n 2, 1) := by decide +kernel
theorem dX13_assembled_157 : decode cX13_assembled 157 = .ok (.aload_n 0, 1) := by decide +kernel
theorem dX13_assembled_158 : decode cX13_assembled 158 = .ok (.getfield 114, 3) := by decide +kernel
theorem dX13_assembled_161 : decode cX13_assembled 161 = .ok (.iload_n 2, 1) := by decide +kernel
theorem dX13_assembled_162 : decode cX13_assembled 162 = .ok (.iaload, 1) := by decide +kernel
theorem dX13_assembled_163 : decode cX13_assembled 163 = .ok (.iconst 1, 1) := by decide +kernel
theorem dX13_assembled_164 : decode cX13_assembled 164 = .ok (.iadd, 1) := by decide +kernel
theorem dX13_assembled_165 : decode cX13_assembled 165 = .ok (.invokevirtual 320, 3) := by decide +kernel
theorem dX13_assembled_168 : decode cX13_assembled 168 = .ok (.iastore, 1) := by decide +kernel
theorem dX13_assembled_169 : decode cX13_assembled 169 = .ok (.aload_n 0, 1) := by decide +kernel
theorem dX13_assembled_170 : decode cX13_assembled 170 = .ok (.getfield 114, 3) := by decide +kernel
theorem dX13_assembled_173 : decode cX13_assembled 173 = .ok (.iload_n 2, 1) := by decide +kernel
theorem dX13_assembled_174 : decode cX13_assembled 174 = .ok (.iaload, 1) := by decide +kernel
theorem dX13_assembled_175 : decode cX13_assembled 175 = .ok (.ifCond .ge 19, 3) := by decide +kernel
theorem dX13_assembled_178 : decode cX13_assembled 178 = .ok (.new 209, 3) := by decide +kernel
theorem dX13_assembled_181 : decode cX13_assembled 181 = .ok (.dup, 1) := by decide +kernel
theorem dX13_assembled_182 : decode cX13_assembled 182 = .ok (.bipush 7, 2) := by decide +kernel
theorem dX13_assembled_184 : decode cX13_assembled 184 = .ok (.aload_n 0, 1) := by decide +kernel
theorem dX13_assembled_185 : decode cX13_assembled 185 = .ok (.getfield 108, 3) := by decide +kernel
theorem dX13_assembled_188 : decode cX13_assembled 188 = .ok (.iload_n 2, 1) := by decide +kernel
theorem dX13_assembled_189 : decode cX13_assembled 189 = .ok (.iaload, 1) := by decide +kernel
theorem dX13_assembled_190 : decode cX13_assembled 190 = .ok (.invokespecial 211, 3) := by decide +kernel
theorem dX13_assembled_193 : decode cX13_assembled 193 = .ok (.athrow, 1) := by decide +kernel
theorem dX13_assembled_194 : decode cX13_assembled 194 = .ok (.iinc 2 1, 3) := by decide +kernel
theorem dX13_assembled_197 : decode cX13_assembled 197 = .ok (.goto (-99), 3) := by decide +kernel
theorem dX13_assembled_200 : decode cX13_assembled 200 = .ok (.goto (-124), 3) := by decide +kernel
theorem dX13_assembled_203 : decode cX13_assembled 203 = .ok (.iconst 0, 1) := by decide +kernel
theorem dX13_assembled_204 : decode cX13_assembled 204 = .ok (.istore_n 2, 1) := by decide +kernel
theorem dX13_assembled_205 : decode cX13_assembled 205 = .ok (.iload_n 2, 1) := by decide +kernel
theorem dX13_assembled_206 : decode cX13_assembled 206 = .ok (.aload_n 0, 1) := by decide +kernel
theorem dX13_assembled_207 : decode cX13_assembled 207 = .ok (.getfield 295, 3) := by decide +kernel
theorem dX13_assembled_210 : decode cX13_assembled 210 = .ok (.if_icmp .ge 14, 3) := by decide +kernel
theorem dX13_assembled_213 : decode cX13_assembled 213 = .ok (.aload_n 0, 1) := by decide +kernel
theorem dX13_assembled_214 : decode cX13_assembled 214 = .ok (.iload_n 2, 1) := by decide +kernel
theorem dX13_assembled_215 : decode cX13_assembled 215 = .ok (.invokevirtual 330, 3) := by decide +kernel
theorem dX13_assembled_218 : decode cX13_assembled 218 = .ok (.iinc 2 1, 3) := by decide +kernel
theorem dX13_assembled_221 : decode cX13_assembled 221 = .ok (.goto (-16), 3) := by decide +kernel
theorem dX13_assembled_224 : decode cX13_assembled 224 = .ok (.return_, 1) := by decide +kernel
theorem dX13_say_0 : decode cX13_say 0 = .ok (.aload_n 0, 1) := by decide +kernel
theorem dX13_say_1 : decode cX13_say 1 = .ok (.getfield 16, 3) := by decide +kernel
theorem dX13_say_4 : decode cX13_say 4 = .ok (.aload_n 0, 1) := by decide +kernel
theorem dX13_say_5 : decode cX13_say 5 = .ok (.dup, 1) := by decide +kernel
theorem dX13_say_6 : decode cX13_say 6 = .ok (.getfield 339, 3) := by decide +kernel
theorem dX13_say_9 : decode cX13_say 9 = .ok (.dup_x1, 1) := by decide +kernel
theorem dX13_say_10 : decode cX13_say 10 = .ok (.iconst 1, 1) := by decide +kernel
theorem dX13_say_11 : decode cX13_say 11 = .ok (.iadd, 1) := by decide +kernel
theorem dX13_say_12 : decode cX13_say 12 = .ok (.putfield 339, 3) := by decide +kernel
theorem dX13_say_15 : decode cX13_say 15 = .ok (.iload_n 1, 1) := by decide +kernel
theorem dX13_say_16 : decode cX13_say 16 = .ok (.i2b, 1) := by decide +kernel
theorem dX13_say_17 : decode cX13_say 17 = .ok (.bastore, 1) := by decide +kernel
theorem dX13_say_18 : decode cX13_say 18 = .ok (.return_, 1) := by decide +kernel
theorem dX13_sayName_0 : decode cX13_sayName 0 = .ok (.iconst 0, 1) := by decide +kernel
theorem dX13_sayName_1 : decode cX13_sayName 1 = .ok (.istore_n 2, 1) := by decide +kernel
theorem dX13_sayName_2 : decode cX13_sayName 2 = .ok (.iload_n 2, 1) := by decide +kernel
theorem dX13_sayName_3 : decode cX13_sayName 3 = .ok (.aload_n 0, 1) := by decide +kernel
theorem dX13_sayName_4 : decode cX13_sayName 4 = .ok (.getfield 47, 3) := by decide +kernel
theorem dX13_sayName_7 : decode cX13_sayName 7 = .ok (.iload_n 1, 1) := by decide +kernel
theorem dX13_sayName_8 : decode cX13_sayName 8 = .ok (.iaload, 1) := by decide +kernel
theorem dX13_sayName_9 : decode cX13_sayName 9 = .ok (.if_icmp .ge 26, 3) := by decide +kernel
theorem dX13_sayName_12 : decode cX13_sayName 12 = .ok (.aload_n 0, 1) := by decide +kernel
theorem dX13_sayName_13 : decode cX13_sayName 13 = .ok (.aload_n 0, 1) := by decide +kernel
theorem dX13_sayName_14 : decode cX13_sayName 14 = .ok (.getfield 41, 3) := by decide +kernel
theorem dX13_sayName_17 : decode cX13_sayName 17 = .ok (.aload_n 0, 1) := by decide +kernel
theorem dX13_sayName_18 : decode cX13_sayName 18 = .ok (.getfield 44, 3) := by decide +kernel
theorem dX13_sayName_21 : decode cX13_sayName 21 = .ok (.iload_n 1, 1) := by decide +kernel
theorem dX13_sayName_22 : decode cX13_sayName 22 = .ok (.iaload, 1) := by decide +kernel
theorem dX13_sayName_23 : decode cX13_sayName 23 = .ok (.iload_n 2, 1) := by decide +kernel
theorem dX13_sayName_24 : decode cX13_sayName 24 = .ok (.iadd, 1) := by decide +kernel
theorem dX13_sayName_25 : decode cX13_sayName 25 = .ok (.baload, 1) := by decide +kernel
theorem dX13_sayName_26 : decode cX13_sayName 26 = .ok (.invokevirtual 342, 3) := by decide +kernel
theorem dX13_sayName_29 : decode cX13_sayName 29 = .ok (.iinc 2 1, 3) := by decide +kernel
theorem dX13_sayName_32 : decode cX13_sayName 32 = .ok (.goto (-30), 3) := by decide +kernel
theorem dX13_sayName_35 : decode cX13_sayName 35 = .ok (.return_, 1) := by decide +kernel
theorem dX13_sayNumber_0 : decode cX13_sayNumber 0 = .ok (.lload_n 1, 1) := by decide +kernel
theorem dX13_sayNumber_1 : decode cX13_sayNumber 1 = .ok (.lconst 0, 1) := by decide +kernel
theorem dX13_sayNumber_2 : decode cX13_sayNumber 2 = .ok (.lcmp, 1) := by decide +kernel
theorem dX13_sayNumber_3 : decode cX13_sayNumber 3 = .ok (.ifCond .ge 9, 3) := by decide +kernel
theorem dX13_sayNumber_6 : decode cX13_sayNumber 6 = .ok (.aload_n 0, 1) := by decide +kernel
theorem dX13_sayNumber_7 : decode cX13_sayNumber 7 = .ok (.bipush 45, 2) := by decide +kernel
theorem dX13_sayNumber_9 : decode cX13_sayNumber 9 = .ok (.invokevirtual 342, 3) := by decide +kernel
theorem dX13_sayNumber_12 : decode cX13_sayNumber 12 = .ok (.lconst 1, 1) := by decide +kernel
theorem dX13_sayNumber_13 : decode cX13_sayNumber 13 = .ok (.lstore_n 3, 1) := by decide +kernel
theorem dX13_sayNumber_14 : decode cX13_sayNumber 14 = .ok (.lload_n 1, 1) := by decide +kernel
theorem dX13_sayNumber_15 : decode cX13_sayNumber 15 = .ok (.lload_n 3, 1) := by decide +kernel
theorem dX13_sayNumber_16 : decode cX13_sayNumber 16 = .ok (.ldiv, 1) := by decide +kernel
theorem dX13_sayNumber_17 : decode cX13_sayNumber 17 = .ok (.ldc2_w 345, 3) := by decide +kernel
theorem dX13_sayNumber_20 : decode cX13_sayNumber 20 = .ok (.lcmp, 1) := by decide +kernel
theorem dX13_sayNumber_21 : decode cX13_sayNumber 21 = .ok (.ifCond .gt 13, 3) := by decide +kernel
theorem dX13_sayNumber_24 : decode cX13_sayNumber 24 = .ok (.lload_n 1, 1) := by decide +kernel
theorem dX13_sayNumber_25 : decode cX13_sayNumber 25 = .ok (.lload_n 3, 1) := by decide +kernel
theorem dX13_sayNumber_26 : decode cX13_sayNumber 26 = .ok (.ldiv, 1) := by decide +kernel
theorem dX13_sayNumber_27 : decode cX13_sayNumber 27 = .ok (.ldc2_w 347, 3) := by decide +kernel
theorem dX13_sayNumber_30 : decode cX13_sayNumber 30 = .ok (.lcmp, 1) := by decide +kernel
theorem dX13_sayNumber_31 : decode cX13_sayNumber 31 = .ok (.ifCond .ge 12, 3) := by decide +kernel
theorem dX13_sayNumber_34 : decode cX13_sayNumber 34 = .ok (.lload_n 3, 1) := by decide +kernel
theorem dX13_sayNumber_35 : decode cX13_sayNumber 35 = .ok (.ldc2_w 176, 3) := by decide +kernel
theorem dX13_sayNumber_38 : decode cX13_sayNumber 38 = .ok (.lmul, 1) := by decide +kernel
theorem dX13_sayNumber_39 : decode cX13_sayNumber 39 = .ok (.lstore_n 3, 1) := by decide +kernel
theorem dX13_sayNumber_40 : decode cX13_sayNumber 40 = .ok (.goto (-26), 3) := by decide +kernel
theorem dX13_sayNumber_43 : decode cX13_sayNumber 43 = .ok (.lload_n 3, 1) := by decide +kernel
theorem dX13_sayNumber_44 : decode cX13_sayNumber 44 = .ok (.lconst 0, 1) := by decide +kernel
theorem dX13_sayNumber_45 : decode cX13_sayNumber 45 = .ok (.lcmp, 1) := by decide +kernel
theorem dX13_sayNumber_46 : decode cX13_sayNumber 46 = .ok (.ifCond .le 42, 3) := by decide +kernel
theorem dX13_sayNumber_49 : decode cX13_sayNumber 49 = .ok (.lload_n 1, 1) := by decide +kernel
theorem dX13_sayNumber_50 : decode cX13_sayNumber 50 = .ok (.lload_n 3, 1) := by decide +kernel
theorem dX13_sayNumber_51 : decode cX13_sayNumber 51 = .ok (.ldiv, 1) := by decide +kernel
theorem dX13_sayNumber_52 : decode cX13_sayNumber 52 = .ok (.ldc2_w 176, 3) := by decide +kernel
theorem dX13_sayNumber_55 : decode cX13_sayNumber 55 = .ok (.lrem, 1) := by decide +kernel
theorem dX13_sayNumber_56 : decode cX13_sayNumber 56 = .ok (.l2i, 1) := by decide +kernel
theorem dX13_sayNumber_57 : decode cX13_sayNumber 57 = .ok (.istore 5, 2) := by decide +kernel
theorem dX13_sayNumber_59 : decode cX13_sayNumber 59 = .ok (.aload_n 0, 1) := by decide +kernel
theorem dX13_sayNumber_60 : decode cX13_sayNumber 60 = .ok (.bipush 48, 2) := by decide +kernel
theorem dX13_sayNumber_62 : decode cX13_sayNumber 62 = .ok (.iload 5, 2) := by decide +kernel
theorem dX13_sayNumber_64 : decode cX13_sayNumber 64 = .ok (.ifCond .ge 9, 3) := by decide +kernel
theorem dX13_sayNumber_67 : decode cX13_sayNumber 67 = .ok (.iload 5, 2) := by decide +kernel
theorem dX13_sayNumber_69 : decode cX13_sayNumber 69 = .ok (.ineg, 1) := by decide +kernel
theorem dX13_sayNumber_70 : decode cX13_sayNumber 70 = .ok (.goto 5, 3) := by decide +kernel
theorem dX13_sayNumber_73 : decode cX13_sayNumber 73 = .ok (.iload 5, 2) := by decide +kernel
theorem dX13_sayNumber_75 : decode cX13_sayNumber 75 = .ok (.iadd, 1) := by decide +kernel
theorem dX13_sayNumber_76 : decode cX13_sayNumber 76 = .ok (.invokevirtual 342, 3) := by decide +kernel
theorem dX13_sayNumber_79 : decode cX13_sayNumber 79 = .ok (.lload_n 3, 1) := by decide +kernel
theorem dX13_sayNumber_80 : decode cX13_sayNumber 80 = .ok (.ldc2_w 176, 3) := by decide +kernel
theorem dX13_sayNumber_83 : decode cX13_sayNumber 83 = .ok (.ldiv, 1) := by decide +kernel
theorem dX13_sayNumber_84 : decode cX13_sayNumber 84 = .ok (.lstore_n 3, 1) := by decide +kernel
theorem dX13_sayNumber_85 : decode cX13_sayNumber 85 = .ok (.goto (-42), 3) := by decide +kernel
theorem dX13_sayNumber_88 : decode cX13_sayNumber 88 = .ok (.return_, 1) := by decide +kernel
theorem dX13_field_0 : decode cX13_field 0 = .ok (.lconst 0, 1) := by decide +kernel
theorem dX13_field_1 : decode cX13_field 1 = .ok (.lstore 4, 2) := by decide +kernel
theorem dX13_field_3 : decode cX13_field 3 = .ok (.iconst 0, 1) := by decide +kernel
theorem dX13_field_4 : decode cX13_field 4 = .ok (.istore 6, 2) := by decide +kernel
theorem dX13_field_6 : decode cX13_field 6 = .ok (.iload 6, 2) := by decide +kernel
theorem dX13_field_8 : decode cX13_field 8 = .ok (.aload_n 0, 1) := by decide +kernel
theorem dX13_field_9 : decode cX13_field 9 = .ok (.getfield 77, 3) := by decide +kernel
theorem dX13_field_12 : decode cX13_field 12 = .ok (.iload_n 2, 1) := by decide +kernel
theorem dX13_field_13 : decode cX13_field 13 = .ok (.iaload, 1) := by decide +kernel
theorem dX13_field_14 : decode cX13_field 14 = .ok (.if_icmp .ge 96, 3) := by decide +kernel
theorem dX13_field_17 : decode cX13_field 17 = .ok (.iconst 0, 1) := by decide +kernel
theorem dX13_field_18 : decode cX13_field 18 = .ok (.istore 7, 2) := by decide +kernel
theorem dX13_field_20 : decode cX13_field 20 = .ok (.iload 7, 2) := by decide +kernel
theorem dX13_field_22 : decode cX13_field 22 = .ok (.aload_n 0, 1) := by decide +kernel
theorem dX13_field_23 : decode cX13_field 23 = .ok (.getfield 217, 3) := by decide +kernel
theorem dX13_field_26 : decode cX13_field 26 = .ok (.if_icmp .ge 78, 3) := by decide +kernel
theorem dX13_field_29 : decode cX13_field 29 = .ok (.aload_n 0, 1) := by decide +kernel
theorem dX13_field_30 : decode cX13_field 30 = .ok (.getfield 92, 3) := by decide +kernel
theorem dX13_field_33 : decode cX13_field 33 = .ok (.sipush 160, 3) := by decide +kernel
theorem dX13_field_36 : decode cX13_field 36 = .ok (.iload_n 2, 1) := by decide +kernel
theorem dX13_field_37 : decode cX13_field 37 = .ok (.imul, 1) := by decide +kernel
theorem dX13_field_38 : decode cX13_field 38 = .ok (.iload 6, 2) := by decide +kernel
theorem dX13_field_40 : decode cX13_field 40 = .ok (.aload_n 0, 1) := by decide +kernel
theorem dX13_field_41 : decode cX13_field 41 = .ok (.getfield 217, 3) := by decide +kernel
theorem dX13_field_44 : decode cX13_field 44 = .ok (.imul, 1) := by decide +kernel
theorem dX13_field_45 : decode cX13_field 45 = .ok (.iadd, 1) := by decide +kernel
theorem dX13_field_46 : decode cX13_field 46 = .ok (.iload 7, 2) := by decide +kernel
theorem dX13_field_48 : decode cX13_field 48 = .ok (.iadd, 1) := by decide +kernel
theorem dX13_field_49 : decode cX13_field 49 = .ok (.iaload, 1) := by decide +kernel
theorem dX13_field_50 : decode cX13_field 50 = .ok (.istore 8, 2) := by decide +kernel
theorem dX13_field_52 : decode cX13_field 52 = .ok (.iload 8, 2) := by decide +kernel
theorem dX13_field_54 : decode cX13_field 54 = .ok (.ifCond .lt 44, 3) := by decide +kernel
theorem dX13_field_57 : decode cX13_field 57 = .ok (.iload 8, 2) := by decide +kernel
theorem dX13_field_59 : decode cX13_field 59 = .ok (.bipush 32, 2) := by decide +kernel
theorem dX13_field_61 : decode cX13_field 61 = .ok (.idiv, 1) := by decide +kernel
theorem dX13_field_62 : decode cX13_field 62 = .ok (.iload_n 3, 1) := by decide +kernel
theorem dX13_field_63 : decode cX13_field 63 = .ok (.if_icmp .ne 35, 3) := by decide +kernel
theorem dX13_field_66 : decode cX13_field 66 = .ok (.lload 4, 2) := by decide +kernel
theorem dX13_field_68 : decode cX13_field 68 = .ok (.aload_n 0, 1) := by decide +kernel
theorem dX13_field_69 : decode cX13_field 69 = .ok (.getfield 98, 3) := by decide +kernel
theorem dX13_field_72 : decode cX13_field 72 = .ok (.iload_n 1, 1) := by decide +kernel
theorem dX13_field_73 : decode cX13_field 73 = .ok (.iload 6, 2) := by decide +kernel
theorem dX13_field_75 : decode cX13_field 75 = .ok (.iadd, 1) := by decide +kernel
theorem dX13_field_76 : decode cX13_field 76 = .ok (.laload, 1) := by decide +kernel
theorem dX13_field_77 : decode cX13_field 77 = .ok (.aload_n 0, 1) := by decide +kernel
theorem dX13_field_78 : decode cX13_field 78 = .ok (.getfield 217, 3) := by decide +kernel
theorem dX13_field_81 : decode cX13_field 81 = .ok (.iconst 1, 1) := by decide +kernel
theorem dX13_field_82 : decode cX13_field 82 = .ok (.isub, 1) := by decide +kernel
theorem dX13_field_83 : decode cX13_field 83 = .ok (.iload 7, 2) := by decide +kernel
theorem dX13_field_85 : decode cX13_field 85 = .ok (.isub, 1) := by decide +kernel
theorem dX13_field_86 : decode cX13_field 86 = .ok (.lshr, 1) := by decide +kernel
theorem dX13_field_87 : decode cX13_field 87 = .ok (.lconst 1, 1) := by decide +kernel
theorem dX13_field_88 : decode cX13_field 88 = .ok (.land, 1) := by decide +kernel
theorem dX13_field_89 : decode cX13_field 89 = .ok (.iload 8, 2) := by decide +kernel
theorem dX13_field_91 : decode cX13_field 91 = .ok (.bipush 32, 2) := by decide +kernel
theorem dX13_field_93 : decode cX13_field 93 = .ok (.irem, 1) := by decide +kernel
theorem dX13_field_94 : decode cX13_field 94 = .ok (.lshl, 1) := by decide +kernel
theorem dX13_field_95 : decode cX13_field 95 = .ok (.lor, 1) := by decide +kernel
theorem dX13_field_96 : decode cX13_field 96 = .ok (.lstore 4, 2) := by decide +kernel
theorem dX13_field_98 : decode cX13_field 98 = .ok (.iinc 7 1, 3) := by decide +kernel
theorem dX13_field_101 : decode cX13_field 101 = .ok (.goto (-81), 3) := by decide +kernel
theorem dX13_field_104 : decode cX13_field 104 = .ok (.iinc 6 1, 3) := by decide +kernel
theorem dX13_field_107 : decode cX13_field 107 = .ok (.goto (-101), 3) := by decide +kernel
theorem dX13_field_110 : decode cX13_field 110 = .ok (.lload 4, 2) := by decide +kernel
theorem dX13_field_112 : decode cX13_field 112 = .ok (.lreturn, 1) := by decide +kernel
theorem dX13_isThere_0 : decode cX13_isThere 0 = .ok (.iconst 0, 1) := by decide +kernel
theorem dX13_isThere_1 : decode cX13_isThere 1 = .ok (.istore_n 3, 1) := by decide +kernel
theorem dX13_isThere_2 : decode cX13_isThere 2 = .ok (.iload_n 3, 1) := by decide +kernel
theorem dX13_isThere_3 : decode cX13_isThere 3 = .ok (.aload_n 0, 1) := by decide +kernel
theorem dX13_isThere_4 : decode cX13_isThere 4 = .ok (.getfield 77, 3) := by decide +kernel
theorem dX13_isThere_7 : decode cX13_isThere 7 = .ok (.iload_n 2, 1) := by decide +kernel
theorem dX13_isThere_8 : decode cX13_isThere 8 = .ok (.iaload, 1) := by decide +kernel
theorem dX13_isThere_9 : decode cX13_isThere 9 = .ok (.if_icmp .ge 107, 3) := by decide +kernel
theorem dX13_isThere_12 : decode cX13_isThere 12 = .ok (.iload_n 1, 1) := by decide +kernel
theorem dX13_isThere_13 : decode cX13_isThere 13 = .ok (.iload_n 3, 1) := by decide +kernel
theorem dX13_isThere_14 : decode cX13_isThere 14 = .ok (.iadd, 1) := by decide +kernel
theorem dX13_isThere_15 : decode cX13_isThere 15 = .ok (.sipush 4096, 3) := by decide +kernel
theorem dX13_isThere_18 : decode cX13_isThere 18 = .ok (.if_icmp .ge 14, 3) := by decide +kernel
theorem dX13_isThere_21 : decode cX13_isThere 21 = .ok (.aload_n 0, 1) := by decide +kernel
theorem dX13_isThere_22 : decode cX13_isThere 22 = .ok (.getfield 101, 3) := by decide +kernel
theorem dX13_isThere_25 : decode cX13_isThere 25 = .ok (.iload_n 1, 1) := by decide +kernel
theorem dX13_isThere_26 : decode cX13_isThere 26 = .ok (.iload_n 3, 1) := by decide +kernel
theorem dX13_isThere_27 : decode cX13_isThere 27 = .ok (.iadd, 1) := by decide +kernel
theorem dX13_isThere_28 : decode cX13_isThere 28 = .ok (.baload, 1) := by decide +kernel
theorem dX13_isThere_29 : decode cX13_isThere 29 = .ok (.ifCond .ne 5, 3) := by decide +kernel
theorem dX13_isThere_32 : decode cX13_isThere 32 = .ok (.iconst 0, 1) := by decide +kernel
theorem dX13_isThere_33 : decode cX13_isThere 33 = .ok (.ireturn, 1) := by decide +kernel
theorem dX13_isThere_34 : decode cX13_isThere 34 = .ok (.iconst 0, 1) := by decide +kernel
theorem dX13_isThere_35 : decode cX13_isThere 35 = .ok (.istore 4, 2) := by decide +kernel
theorem dX13_isThere_37 : decode cX13_isThere 37 = .ok (.iload 4, 2) := by decide +kernel
theorem dX13_isThere_39 : decode cX13_isThere 39 = .ok (.aload_n 0, 1) := by decide +kernel
theorem dX13_isThere_40 : decode cX13_isThere 40 = .ok (.getfield 217, 3) := by decide +kernel
theorem dX13_isThere_43 : decode cX13_isThere 43 = .ok (.if_icmp .ge 67, 3) := by decide +kernel
theorem dX13_isThere_46 : decode cX13_isThere 46 = .ok (.aload_n 0, 1) := by decide +kernel
theorem dX13_isThere_47 : decode cX13_isThere 47 = .ok (.getfield 92, 3) := by decide +kernel
theorem dX13_isThere_50 : decode cX13_isThere 50 = .ok (.sipush 160, 3) := by decide +kernel
theorem dX13_isThere_53 : decode cX13_isThere 53 = .ok (.iload_n 2, 1) := by decide +kernel
theorem dX13_isThere_54 : decode cX13_isThere 54 = .ok (.imul, 1) := by decide +kernel
theorem dX13_isThere_55 : decode cX13_isThere 55 = .ok (.iload_n 3, 1) := by decide +kernel
theorem dX13_isThere_56 : decode cX13_isThere 56 = .ok (.aload_n 0, 1) := by decide +kernel
theorem dX13_isThere_57 : decode cX13_isThere 57 = .ok (.getfield 217, 3) := by decide +kernel
theorem dX13_isThere_60 : decode cX13_isThere 60 = .ok (.imul, 1) := by decide +kernel
theorem dX13_isThere_61 : decode cX13_isThere 61 = .ok (.iadd, 1) := by decide +kernel
theorem dX13_isThere_62 : decode cX13_isThere 62 = .ok (.iload 4, 2) := by decide +kernel
theorem dX13_isThere_64 : decode cX13_isThere 64 = .ok (.iadd, 1) := by decide +kernel
theorem dX13_isThere_65 : decode cX13_isThere 65 = .ok (.iaload, 1) := by decide +kernel
theorem dX13_isThere_66 : decode cX13_isThere 66 = .ok (.istore 5, 2) := by decide +kernel
theorem dX13_isThere_68 : decode cX13_isThere 68 = .ok (.iload 5, 2) := by decide +kernel
theorem dX13_isThere_70 : decode cX13_isThere 70 = .ok (.ifCond .ge 34, 3) := by decide +kernel
theorem dX13_isThere_73 : decode cX13_isThere 73 = .ok (.aload_n 0, 1) := by decide +kernel
theorem dX13_isThere_74 : decode cX13_isThere 74 = .ok (.getfield 98, 3) := by decide +kernel
theorem dX13_isThere_77 : decode cX13_isThere 77 = .ok (.iload_n 1, 1) := by decide +kernel
theorem dX13_isThere_78 : decode cX13_isThere 78 = .ok (.iload_n 3, 1) := by decide +kernel
theorem dX13_isThere_79 : decode cX13_isThere 79 = .ok (.iadd, 1) := by decide +kernel
theorem dX13_isThere_80 : decode cX13_isThere 80 = .ok (.laload, 1) := by decide +kernel
theorem dX13_isThere_81 : decode cX13_isThere 81 = .ok (.aload_n 0, 1) := by decide +kernel
theorem dX13_isThere_82 : decode cX13_isThere 82 = .ok (.getfield 217, 3) := by decide +kernel
theorem dX13_isThere_85 : decode cX13_isThere 85 = .ok (.iconst 1, 1) := by decide +kernel
theorem dX13_isThere_86 : decode cX13_isThere 86 = .ok (.isub, 1) := by decide +kernel
theorem dX13_isThere_87 : decode cX13_isThere 87 = .ok (.iload 4, 2) := by decide +kernel
theorem dX13_isThere_89 : decode cX13_isThere 89 = .ok (.isub, 1) := by decide +kernel
theorem dX13_isThere_90 : decode cX13_isThere 90 = .ok (.lshr, 1) := by decide +kernel
theorem dX13_isThere_91 : decode cX13_isThere 91 = .ok (.lconst 1, 1) := by decide +kernel
theorem dX13_isThere_92 : decode cX13_isThere 92 = .ok (.land, 1) := by decide +kernel
theorem dX13_isThere_93 : decode cX13_isThere 93 = .ok (.iconst (-1), 1) := by decide +kernel
theorem dX13_isThere_94 : decode cX13_isThere 94 = .ok (.iload 5, 2) := by decide +kernel
theorem dX13_isThere_96 : decode cX13_isThere 96 = .ok (.isub, 1) := by decide +kernel
theorem dX13_isThere_97 : decode cX13_isThere 97 = .ok (.i2l, 1) := by decide +kernel
theorem dX13_isThere_98 : decode cX13_isThere 98 = .ok (.lcmp, 1) := by decide +kernel
theorem dX13_isThere_99 : decode cX13_isThere 99 = .ok (.ifCond .eq 5, 3) := by decide +kernel
theorem dX13_isThere_102 : decode cX13_isThere 102 = .ok (.iconst 0, 1) := by decide +kernel
theorem dX13_isThere_103 : decode cX13_isThere 103 = .ok (.ireturn, 1) := by decide +kernel
theorem dX13_isThere_104 : decode cX13_isThere 104 = .ok (.iinc 4 1, 3) := by decide +kernel
theorem dX13_isThere_107 : decode cX13_isThere 107 = .ok (.goto (-70), 3) := by decide +kernel
theorem dX13_isThere_110 : decode cX13_isThere 110 = .ok (.iinc 3 1, 3) := by decide +kernel
theorem dX13_isThere_113 : decode cX13_isThere 113 = .ok (.goto (-111), 3) := by decide +kernel
theorem dX13_isThere_116 : decode cX13_isThere 116 = .ok (.iconst 0, 1) := by decide +kernel
theorem dX13_isThere_117 : decode cX13_isThere 117 = .ok (.istore_n 3, 1) := by decide +kernel
theorem dX13_isThere_118 : decode cX13_isThere 118 = .ok (.iload_n 3, 1) := by decide +kernel
theorem dX13_isThere_119 : decode cX13_isThere 119 = .ok (.aload_n 0, 1) := by decide +kernel
theorem dX13_isThere_120 : decode cX13_isThere 120 = .ok (.getfield 74, 3) := by decide +kernel
theorem dX13_isThere_123 : decode cX13_isThere 123 = .ok (.iload_n 2, 1) := by decide +kernel
theorem dX13_isThere_124 : decode cX13_isThere 124 = .ok (.iaload, 1) := by decide +kernel
theorem dX13_isThere_125 : decode cX13_isThere 125 = .ok (.if_icmp .ge 63, 3) := by decide +kernel
theorem dX13_isThere_128 : decode cX13_isThere 128 = .ok (.aload_n 0, 1) := by decide +kernel
theorem dX13_isThere_129 : decode cX13_isThere 129 = .ok (.getfield 89, 3) := by decide +kernel
theorem dX13_isThere_132 : decode cX13_isThere 132 = .ok (.iconst 5, 1) := by decide +kernel
theorem dX13_isThere_133 : decode cX13_isThere 133 = .ok (.iload_n 2, 1) := by decide +kernel
theorem dX13_isThere_134 : decode cX13_isThere 134 = .ok (.imul, 1) := by decide +kernel
theorem dX13_isThere_135 : decode cX13_isThere 135 = .ok (.iload_n 3, 1) := by decide +kernel
theorem dX13_isThere_136 : decode cX13_isThere 136 = .ok (.iadd, 1) := by decide +kernel
theorem dX13_isThere_137 : decode cX13_isThere 137 = .ok (.iaload, 1) := by decide +kernel
theorem dX13_isThere_138 : decode cX13_isThere 138 = .ok (.istore 4, 2) := by decide +kernel
theorem dX13_isThere_140 : decode cX13_isThere 140 = .ok (.aload_n 0, 1) := by decide +kernel
theorem dX13_isThere_141 : decode cX13_isThere 141 = .ok (.getfield 53, 3) := by decide +kernel
theorem dX13_isThere_144 : decode cX13_isThere 144 = .ok (.iload 4, 2) := by decide +kernel
theorem dX13_isThere_146 : decode cX13_isThere 146 = .ok (.iaload, 1) := by decide +kernel
theorem dX13_isThere_147 : decode cX13_isThere 147 = .ok (.ifCond .eq 14, 3) := by decide +kernel
theorem dX13_isThere_150 : decode cX13_isThere 150 = .ok (.aload_n 0, 1) := by decide +kernel
theorem dX13_isThere_151 : decode cX13_isThere 151 = .ok (.getfield 53, 3) := by decide +kernel
theorem dX13_isThere_154 : decode cX13_isThere 154 = .ok (.iload 4, 2) := by decide +kernel
theorem dX13_isThere_156 : decode cX13_isThere 156 = .ok (.iaload, 1) := by decide +kernel
theorem dX13_isThere_157 : decode cX13_isThere 157 = .ok (.iconst 4, 1) := by decide +kernel
theorem dX13_isThere_158 : decode cX13_isThere 158 = .ok (.if_icmp .ne 24, 3) := by decide +kernel
theorem dX13_isThere_161 : decode cX13_isThere 161 = .ok (.aload_n 0, 1) := by decide +kernel
theorem dX13_isThere_162 : decode cX13_isThere 162 = .ok (.iload_n 1, 1) := by decide +kernel
theorem dX13_isThere_163 : decode cX13_isThere 163 = .ok (.iload_n 2, 1) := by decide +kernel
theorem dX13_isThere_164 : decode cX13_isThere 164 = .ok (.iload_n 3, 1) := by decide +kernel
theorem dX13_isThere_165 : decode cX13_isThere 165 = .ok (.invokevirtual 349, 3) := by decide +kernel
theorem dX13_isThere_168 : decode cX13_isThere 168 = .ok (.aload_n 0, 1) := by decide +kernel
theorem dX13_isThere_169 : decode cX13_isThere 169 = .ok (.getfield 59, 3) := by decide +kernel
theorem dX13_isThere_172 : decode cX13_isThere 172 = .ok (.iload 4, 2) := by decide +kernel
theorem dX13_isThere_174 : decode cX13_isThere 174 = .ok (.iaload, 1) := by decide +kernel
theorem dX13_isThere_175 : decode cX13_isThere 175 = .ok (.i2l, 1) := by decide +kernel
theorem dX13_isThere_176 : decode cX13_isThere 176 = .ok (.lcmp, 1) := by decide +kernel
theorem dX13_isThere_177 : decode cX13_isThere 177 = .ok (.ifCond .lt 5, 3) := by decide +kernel
theorem dX13_isThere_180 : decode cX13_isThere 180 = .ok (.iconst 0, 1) := by decide +kernel
theorem dX13_isThere_181 : decode cX13_isThere 181 = .ok (.ireturn, 1) := by decide +kernel
theorem dX13_isThere_182 : decode cX13_isThere 182 = .ok (.iinc 3 1, 3) := by decide +kernel
theorem dX13_isThere_185 : decode cX13_isThere 185 = .ok (.goto (-67), 3) := by decide +kernel
theorem dX13_isThere_188 : decode cX13_isThere 188 = .ok (.iconst 1, 1) := by decide +kernel
theorem dX13_isThere_189 : decode cX13_isThere 189 = .ok (.ireturn, 1) := by decide +kernel
theorem dX13_lists_0 : decode cX13_lists 0 = .ok (.iconst (-1), 1) := by decide +kernel
theorem dX13_lists_1 : decode cX13_lists 1 = .ok (.istore_n 2, 1) := by decide +kernel
theorem dX13_lists_2 : decode cX13_lists 2 = .ok (.iconst 0, 1) := by decide +kernel
theorem dX13_lists_3 : decode cX13_lists 3 = .ok (.istore_n 3, 1) := by decide +kernel
theorem dX13_lists_4 : decode cX13_lists 4 = .ok (.iload_n 3, 1) := by decide +kernel
theorem dX13_lists_5 : decode cX13_lists 5 = .ok (.aload_n 0, 1) := by decide +kernel
theorem dX13_lists_6 : decode cX13_lists 6 = .ok (.getfield 223, 3) := by decide +kernel
theorem dX13_lists_9 : decode cX13_lists 9 = .ok (.if_icmp .ge 39, 3) := by decide +kernel
theorem dX13_lists_12 : decode cX13_lists 12 = .ok (.aload_n 0, 1) := by decide +kernel
theorem dX13_lists_13 : decode cX13_lists 13 = .ok (.iload_n 1, 1) := by decide +kernel
theorem dX13_lists_14 : decode cX13_lists 14 = .ok (.iload_n 3, 1) := by decide +kernel
theorem dX13_lists_15 : decode cX13_lists 15 = .ok (.invokevirtual 352, 3) := by decide +kernel
theorem dX13_lists_18 : decode cX13_lists 18 = .ok (.ifCond .eq 24, 3) := by decide +kernel
theorem dX13_lists_21 : decode cX13_lists 21 = .ok (.iload_n 2, 1) := by decide +kernel
theorem dX13_lists_22 : decode cX13_lists 22 = .ok (.ifCond .lt 18, 3) := by decide +kernel
theorem dX13_lists_25 : decode cX13_lists 25 = .ok (.aload_n 0, 1) := by decide +kernel
theorem dX13_lists_26 : decode cX13_lists 26 = .ok (.getfield 80, 3) := by decide +kernel
theorem dX13_lists_29 : decode cX13_lists 29 = .ok (.iload_n 3, 1) := by decide +kernel
theorem dX13_lists_30 : decode cX13_lists 30 = .ok (.iaload, 1) := by decide +kernel
theorem dX13_lists_31 : decode cX13_lists 31 = .ok (.aload_n 0, 1) := by decide +kernel
theorem dX13_lists_32 : decode cX13_lists 32 = .ok (.getfield 80, 3) := by decide +kernel
theorem dX13_lists_35 : decode cX13_lists 35 = .ok (.iload_n 2, 1) := by decide +kernel
theorem dX13_lists_36 : decode cX13_lists 36 = .ok (.iaload, 1) := by decide +kernel
theorem dX13_lists_37 : decode cX13_lists 37 = .ok (.if_icmp .le 5, 3) := by decide +kernel
theorem dX13_lists_40 : decode cX13_lists 40 = .ok (.iload_n 3, 1) := by decide +kernel
theorem dX13_lists_41 : decode cX13_lists 41 = .ok (.istore_n 2, 1) := by decide +kernel
theorem dX13_lists_42 : decode cX13_lists 42 = .ok (.iinc 3 1, 3) := by decide +kernel
theorem dX13_lists_45 : decode cX13_lists 45 = .ok (.goto (-41), 3) := by decide +kernel
theorem dX13_lists_48 : decode cX13_lists 48 = .ok (.aload_n 0, 1) := by decide +kernel
theorem dX13_lists_49 : decode cX13_lists 49 = .ok (.iconst 0, 1) := by decide +kernel
theorem dX13_lists_50 : decode cX13_lists 50 = .ok (.putfield 339, 3) := by decide +kernel
theorem dX13_lists_53 : decode cX13_lists 53 = .ok (.aload_n 0, 1) := by decide +kernel
theorem dX13_lists_54 : decode cX13_lists 54 = .ok (.iload_n 2, 1) := by decide +kernel
theorem dX13_lists_55 : decode cX13_lists 55 = .ok (.putfield 23, 3) := by decide +kernel
theorem dX13_lists_58 : decode cX13_lists 58 = .ok (.iload_n 2, 1) := by decide +kernel
theorem dX13_lists_59 : decode cX13_lists 59 = .ok (.ifCond .ge 46, 3) := by decide +kernel
theorem dX13_lists_62 : decode cX13_lists 62 = .ok (.ldc_w 355, 3) := by decide +kernel
theorem dX13_lists_65 : decode cX13_lists 65 = .ok (.astore_n 3, 1) := by decide +kernel
theorem dX13_lists_66 : decode cX13_lists 66 = .ok (.iconst 0, 1) := by decide +kernel
theorem dX13_lists_67 : decode cX13_lists 67 = .ok (.istore 4, 2) := by decide +kernel
theorem dX13_lists_69 : decode cX13_lists 69 = .ok (.iload 4, 2) := by decide +kernel
theorem dX13_lists_71 : decode cX13_lists 71 = .ok (.aload_n 3, 1) := by decide +kernel
theorem dX13_lists_72 : decode cX13_lists 72 = .ok (.invokevirtual 182, 3) := by decide +kernel
theorem dX13_lists_75 : decode cX13_lists 75 = .ok (.if_icmp .ge 19, 3) := by decide +kernel
theorem dX13_lists_78 : decode cX13_lists 78 = .ok (.aload_n 0, 1) := by decide +kernel
theorem dX13_lists_79 : decode cX13_lists 79 = .ok (.aload_n 3, 1) := by decide +kernel
theorem dX13_lists_80 : decode cX13_lists 80 = .ok (.iload 4, 2) := by decide +kernel
theorem dX13_lists_82 : decode cX13_lists 82 = .ok (.invokevirtual 186, 3) := by decide +kernel
theorem dX13_lists_85 : decode cX13_lists 85 = .ok (.invokevirtual 342, 3) := by decide +kernel
theorem dX13_lists_88 : decode cX13_lists 88 = .ok (.iinc 4 1, 3) := by decide +kernel
theorem dX13_lists_91 : decode cX13_lists 91 = .ok (.goto (-22), 3) := by decide +kernel
theorem dX13_lists_94 : decode cX13_lists 94 = .ok (.aload_n 0, 1) := by decide +kernel
theorem dX13_lists_95 : decode cX13_lists 95 = .ok (.aload_n 0, 1) := by decide +kernel
theorem dX13_lists_96 : decode cX13_lists 96 = .ok (.getfield 98, 3) := by decide +kernel
theorem dX13_lists_99 : decode cX13_lists 99 = .ok (.iload_n 1, 1) := by decide +kernel
theorem dX13_lists_100 : decode cX13_lists 100 = .ok (.laload, 1) := by decide +kernel
theorem dX13_lists_101 : decode cX13_lists 101 = .ok (.invokevirtual 357, 3) := by decide +kernel
theorem dX13_lists_104 : decode cX13_lists 104 = .ok (.return_, 1) := by decide +kernel
theorem dX13_lists_105 : decode cX13_lists 105 = .ok (.aload_n 0, 1) := by decide +kernel
theorem dX13_lists_106 : decode cX13_lists 106 = .ok (.aload_n 0, 1) := by decide +kernel
theorem dX13_lists_107 : decode cX13_lists 107 = .ok (.getfield 68, 3) := by decide +kernel
theorem dX13_lists_110 : decode cX13_lists 110 = .ok (.iload_n 2, 1) := by decide +kernel
theorem dX13_lists_111 : decode cX13_lists 111 = .ok (.iaload, 1) := by decide +kernel
theorem dX13_lists_112 : decode cX13_lists 112 = .ok (.invokevirtual 361, 3) := by decide +kernel
theorem dX13_lists_115 : decode cX13_lists 115 = .ok (.aload_n 0, 1) := by decide +kernel
theorem dX13_lists_116 : decode cX13_lists 116 = .ok (.getfield 71, 3) := by decide +kernel
theorem dX13_lists_119 : decode cX13_lists 119 = .ok (.iload_n 2, 1) := by decide +kernel
theorem dX13_lists_120 : decode cX13_lists 120 = .ok (.iaload, 1) := by decide +kernel
theorem dX13_lists_121 : decode cX13_lists 121 = .ok (.ifCond .le 9, 3) := by decide +kernel
theorem dX13_lists_124 : decode cX13_lists 124 = .ok (.aload_n 0, 1) := by decide +kernel
theorem dX13_lists_125 : decode cX13_lists 125 = .ok (.bipush 32, 2) := by decide +kernel
theorem dX13_lists_127 : decode cX13_lists 127 = .ok (.invokevirtual 342, 3) := by decide +kernel
theorem dX13_lists_130 : decode cX13_lists 130 = .ok (.iconst 0, 1) := by decide +kernel
theorem dX13_lists_131 : decode cX13_lists 131 = .ok (.istore_n 3, 1) := by decide +kernel
theorem dX13_lists_132 : decode cX13_lists 132 = .ok (.iload_n 3, 1) := by decide +kernel
theorem dX13_lists_133 : decode cX13_lists 133 = .ok (.aload_n 0, 1) := by decide +kernel
theorem dX13_lists_134 : decode cX13_lists 134 = .ok (.getfield 71, 3) := by decide +kernel
theorem dX13_lists_137 : decode cX13_lists 137 = .ok (.iload_n 2, 1) := by decide +kernel
theorem dX13_lists_138 : decode cX13_lists 138 = .ok (.iaload, 1) := by decide +kernel
theorem dX13_lists_139 : decode cX13_lists 139 = .ok (.if_icmp .ge 214, 3) := by decide +kernel
theorem dX13_lists_142 : decode cX13_lists 142 = .ok (.aload_n 0, 1) := by decide +kernel
theorem dX13_lists_143 : decode cX13_lists 143 = .ok (.getfield 83, 3) := by decide +kernel
theorem dX13_lists_146 : decode cX13_lists 146 = .ok (.bipush 12, 2) := by decide +kernel
theorem dX13_lists_148 : decode cX13_lists 148 = .ok (.iload_n 2, 1) := by decide +kernel
theorem dX13_lists_149 : decode cX13_lists 149 = .ok (.imul, 1) := by decide +kernel
theorem dX13_lists_150 : decode cX13_lists 150 = .ok (.iload_n 3, 1) := by decide +kernel
theorem dX13_lists_151 : decode cX13_lists 151 = .ok (.iadd, 1) := by decide +kernel
theorem dX13_lists_152 : decode cX13_lists 152 = .ok (.iaload, 1) := by decide +kernel
theorem dX13_lists_153 : decode cX13_lists 153 = .ok (.istore 4, 2) := by decide +kernel
theorem dX13_lists_155 : decode cX13_lists 155 = .ok (.iload 4, 2) := by decide +kernel
theorem dX13_lists_157 : decode cX13_lists 157 = .ok (.ifCond .lt 25, 3) := by decide +kernel
theorem dX13_lists_160 : decode cX13_lists 160 = .ok (.aload_n 0, 1) := by decide +kernel
theorem dX13_lists_161 : decode cX13_lists 161 = .ok (.iload 4, 2) := by decide +kernel
theorem dX13_lists_163 : decode cX13_lists 163 = .ok (.invokevirtual 342, 3) := by decide +kernel
theorem dX13_lists_166 : decode cX13_lists 166 = .ok (.iload 4, 2) := by decide +kernel
theorem dX13_lists_168 : decode cX13_lists 168 = .ok (.bipush 44, 2) := by decide +kernel
theorem dX13_lists_170 : decode cX13_lists 170 = .ok (.if_icmp .ne 177, 3) := by decide +kernel
theorem dX13_lists_173 : decode cX13_lists 173 = .ok (.aload_n 0, 1) := by decide +kernel
theorem dX13_lists_174 : decode cX13_lists 174 = .ok (.bipush 32, 2) := by decide +kernel
theorem dX13_lists_176 : decode cX13_lists 176 = .ok (.invokevirtual 342, 3) := by decide +kernel
theorem dX13_lists_179 : decode cX13_lists 179 = .ok (.goto 168, 3) := by decide +kernel
theorem dX13_lists_182 : decode cX13_lists 182 = .ok (.aload_n 0, 1) := by decide +kernel
theorem dX13_lists_183 : decode cX13_lists 183 = .ok (.getfield 89, 3) := by decide +kernel
theorem dX13_lists_186 : decode cX13_lists 186 = .ok (.iconst 5, 1) := by decide +kernel
theorem dX13_lists_187 : decode cX13_lists 187 = .ok (.iload_n 2, 1) := by decide +kernel
theorem dX13_lists_188 : decode cX13_lists 188 = .ok (.imul, 1) := by decide +kernel
theorem dX13_lists_189 : decode cX13_lists 189 = .ok (.iconst 1, 1) := by decide +kernel
theorem dX13_lists_190 : decode cX13_lists 190 = .ok (.isub, 1) := by decide +kernel
theorem dX13_lists_191 : decode cX13_lists 191 = .ok (.iload 4, 2) := by decide +kernel
theorem dX13_lists_193 : decode cX13_lists 193 = .ok (.isub, 1) := by decide +kernel
theorem dX13_lists_194 : decode cX13_lists 194 = .ok (.iaload, 1) := by decide +kernel
theorem dX13_lists_195 : decode cX13_lists 195 = .ok (.istore 5, 2) := by decide +kernel
theorem dX13_lists_197 : decode cX13_lists 197 = .ok (.aload_n 0, 1) := by decide +kernel
theorem dX13_lists_198 : decode cX13_lists 198 = .ok (.getfield 62, 3) := by decide +kernel
theorem dX13_lists_201 : decode cX13_lists 201 = .ok (.iload 5, 2) := by decide +kernel
theorem dX13_lists_203 : decode cX13_lists 203 = .ok (.iaload, 1) := by decide +kernel
theorem dX13_lists_204 : decode cX13_lists 204 = .ok (.istore 6, 2) := by decide +kernel
theorem dX13_lists_206 : decode cX13_lists 206 = .ok (.aload_n 0, 1) := by decide +kernel
theorem dX13_lists_207 : decode cX13_lists 207 = .ok (.iload_n 1, 1) := by decide +kernel
theorem dX13_lists_208 : decode cX13_lists 208 = .ok (.iload_n 2, 1) := by decide +kernel
theorem dX13_lists_209 : decode cX13_lists 209 = .ok (.iconst (-1), 1) := by decide +kernel
theorem dX13_lists_210 : decode cX13_lists 210 = .ok (.iload 4, 2) := by decide +kernel
theorem dX13_lists_212 : decode cX13_lists 212 = .ok (.isub, 1) := by decide +kernel
theorem dX13_lists_213 : decode cX13_lists 213 = .ok (.invokevirtual 349, 3) := by decide +kernel
theorem dX13_lists_216 : decode cX13_lists 216 = .ok (.lstore 7, 2) := by decide +kernel
theorem dX13_lists_218 : decode cX13_lists 218 = .ok (.lload 7, 2) := by decide +kernel
theorem dX13_lists_220 : decode cX13_lists 220 = .ok (.iload 6, 2) := by decide +kernel
theorem dX13_lists_222 : decode cX13_lists 222 = .ok (.iconst 1, 1) := by decide +kernel
theorem dX13_lists_223 : decode cX13_lists 223 = .ok (.isub, 1) := by decide +kernel
theorem dX13_lists_224 : decode cX13_lists 224 = .ok (.lshr, 1) := by decide +kernel
theorem dX13_lists_225 : decode cX13_lists 225 = .ok (.lconst 1, 1) := by decide +kernel
theorem dX13_lists_226 : decode cX13_lists 226 = .ok (.lcmp, 1) := by decide +kernel
theorem dX13_lists_227 : decode cX13_lists 227 = .ok (.ifCond .ne 13, 3) := by decide +kernel
theorem dX13_lists_230 : decode cX13_lists 230 = .ok (.lload 7, 2) := by decide +kernel
theorem dX13_lists_232 : decode cX13_lists 232 = .ok (.lconst 1, 1) := by decide +kernel
theorem dX13_lists_233 : decode cX13_lists 233 = .ok (.iload 6, 2) := by decide +kernel
theorem dX13_lists_235 : decode cX13_lists 235 = .ok (.lshl, 1) := by decide +kernel
theorem dX13_lists_236 : decode cX13_lists 236 = .ok (.lsub, 1) := by decide +kernel
theorem dX13_lists_237 : decode cX13_lists 237 = .ok (.goto 5, 3) := by decide +kernel
theorem dX13_lists_240 : decode cX13_lists 240 = .ok (.lload 7, 2) := by decide +kernel
theorem dX13_lists_242 : decode cX13_lists 242 = .ok (.lstore 9, 2) := by decide +kernel
theorem dX13_lists_244 : decode cX13_lists 244 = .ok (.aload_n 0, 1) := by decide +kernel
theorem dX13_lists_245 : decode cX13_lists 245 = .ok (.getfield 53, 3) := by decide +kernel
theorem dX13_lists_248 : decode cX13_lists 248 = .ok (.iload 5, 2) := by decide +kernel
theorem dX13_lists_250 : decode cX13_lists 250 = .ok (.iaload, 1) := by decide +kernel
theorem dX13_lists_251 : decode cX13_lists 251 = .ok (.ifCond .ne 23, 3) := by decide +kernel
theorem dX13_lists_254 : decode cX13_lists 254 = .ok (.aload_n 0, 1) := by decide +kernel
theorem dX13_lists_255 : decode cX13_lists 255 = .ok (.aload_n 0, 1) := by decide +kernel
theorem dX13_lists_256 : decode cX13_lists 256 = .ok (.getfield 56, 3) := by decide +kernel
theorem dX13_lists_259 : decode cX13_lists 259 = .ok (.iload 5, 2) := by decide +kernel
theorem dX13_lists_261 : decode cX13_lists 261 = .ok (.iaload, 1) := by decide +kernel
theorem dX13_lists_262 : decode cX13_lists 262 = .ok (.invokevirtual 361, 3) := by decide +kernel
theorem dX13_lists_265 : decode cX13_lists 265 = .ok (.aload_n 0, 1) := by decide +kernel
theorem dX13_lists_266 : decode cX13_lists 266 = .ok (.lload 7, 2) := by decide +kernel
theorem dX13_lists_268 : decode cX13_lists 268 = .ok (.invokevirtual 357, 3) := by decide +kernel
theorem dX13_lists_271 : decode cX13_lists 271 = .ok (.goto 76, 3) := by decide +kernel
theorem dX13_lists_274 : decode cX13_lists 274 = .ok (.aload_n 0, 1) := by decide +kernel
theorem dX13_lists_275 : decode cX13_lists 275 = .ok (.getfield 53, 3) := by decide +kernel
theorem dX13_lists_278 : decode cX13_lists 278 = .ok (.iload 5, 2) := by decide +kernel
theorem dX13_lists_280 : decode cX13_lists 280 = .ok (.iaload, 1) := by decide +kernel
theorem dX13_lists_281 : decode cX13_lists 281 = .ok (.iconst 4, 1) := by decide +kernel
theorem dX13_lists_282 : decode cX13_lists 282 = .ok (.if_icmp .ne 24, 3) := by decide +kernel
theorem dX13_lists_285 : decode cX13_lists 285 = .ok (.aload_n 0, 1) := by decide +kernel
theorem dX13_lists_286 : decode cX13_lists 286 = .ok (.aload_n 0, 1) := by decide +kernel
theorem dX13_lists_287 : decode cX13_lists 287 = .ok (.getfield 65, 3) := by decide +kernel
theorem dX13_lists_290 : decode cX13_lists 290 = .ok (.bipush 32, 2) := by decide +kernel
theorem dX13_lists_292 : decode cX13_lists 292 = .ok (.iload 5, 2) := by decide +kernel
theorem dX13_lists_294 : decode cX13_lists 294 = .ok (.imul, 1) := by decide +kernel
theorem dX13_lists_295 : decode cX13_lists 295 = .ok (.lload 7, 2) := by decide +kernel
theorem dX13_lists_297 : decode cX13_lists 297 = .ok (.l2i, 1) := by decide +kernel
theorem dX13_lists_298 : decode cX13_lists 298 = .ok (.iadd, 1) := by decide +kernel
theorem dX13_lists_299 : decode cX13_lists 299 = .ok (.iaload, 1) := by decide +kernel
theorem dX13_lists_300 : decode cX13_lists 300 = .ok (.invokevirtual 361, 3) := by decide +kernel
theorem dX13_lists_303 : decode cX13_lists 303 = .ok (.goto 44, 3) := by decide +kernel
theorem dX13_lists_306 : decode cX13_lists 306 = .ok (.aload_n 0, 1) := by decide +kernel
theorem dX13_lists_307 : decode cX13_lists 307 = .ok (.aload_n 0, 1) := by decide +kernel
theorem dX13_lists_308 : decode cX13_lists 308 = .ok (.getfield 53, 3) := by decide +kernel
theorem dX13_lists_311 : decode cX13_lists 311 = .ok (.iload 5, 2) := by decide +kernel
theorem dX13_lists_313 : decode cX13_lists 313 = .ok (.iaload, 1) := by decide +kernel
theorem dX13_lists_314 : decode cX13_lists 314 = .ok (.iconst 1, 1) := by decide +kernel
theorem dX13_lists_315 : decode cX13_lists 315 = .ok (.if_icmp .ne 8, 3) := by decide +kernel
theorem dX13_lists_318 : decode cX13_lists 318 = .ok (.lload 7, 2) := by decide +kernel
theorem dX13_lists_320 : decode cX13_lists 320 = .ok (.goto 24, 3) := by decide +kernel
theorem dX13_lists_323 : decode cX13_lists 323 = .ok (.aload_n 0, 1) := by decide +kernel
theorem dX13_lists_324 : decode cX13_lists 324 = .ok (.getfield 53, 3) := by decide +kernel
theorem dX13_lists_327 : decode cX13_lists 327 = .ok (.iload 5, 2) := by decide +kernel
theorem dX13_lists_329 : decode cX13_lists 329 = .ok (.iaload, 1) := by decide +kernel
theorem dX13_lists_330 : decode cX13_lists 330 = .ok (.iconst 2, 1) := by decide +kernel
theorem dX13_lists_331 : decode cX13_lists 331 = .ok (.if_icmp .ne 8, 3) := by decide +kernel
theorem dX13_lists_334 : decode cX13_lists 334 = .ok (.lload 9, 2) := by decide +kernel
theorem dX13_lists_336 : decode cX13_lists 336 = .ok (.goto 8, 3) := by decide +kernel
theorem dX13_lists_339 : decode cX13_lists 339 = .ok (.iload_n 1, 1) := by decide +kernel
theorem dX13_lists_340 : decode cX13_lists 340 = .ok (.i2l, 1) := by decide +kernel
theorem dX13_lists_341 : decode cX13_lists 341 = .ok (.lload 9, 2) := by decide +kernel
theorem dX13_lists_343 : decode cX13_lists 343 = .ok (.ladd, 1) := by decide +kernel
theorem dX13_lists_344 : decode cX13_lists 344 = .ok (.invokevirtual 357, 3) := by decide +kernel
theorem dX13_lists_347 : decode cX13_lists 347 = .ok (.iinc 3 1, 3) := by decide +kernel
theorem dX13_lists_350 : decode cX13_lists 350 = .ok (.goto (-218), 3) := by decide +kernel
theorem dX13_lists_353 : decode cX13_lists 353 = .ok (.return_, 1) := by decide +kernel
theorem dX13_four_0 : decode cX13_four 0 = .ok (.bipush 24, 2) := by decide +kernel
theorem dX13_four_2 : decode cX13_four 2 = .ok (.istore_n 2, 1) := by decide +kernel
theorem dX13_four_3 : decode cX13_four 3 = .ok (.iload_n 2, 1) := by decide +kernel
theorem dX13_four_4 : decode cX13_four 4 = .ok (.ifCond .lt 29, 3) := by decide +kernel
theorem dX13_four_7 : decode cX13_four 7 = .ok (.aload_n 0, 1) := by decide +kernel
theorem dX13_four_8 : decode cX13_four 8 = .ok (.getfield 9, 3) := by decide +kernel
theorem dX13_four_11 : decode cX13_four 11 = .ok (.aload_n 0, 1) := by decide +kernel
theorem dX13_four_12 : decode cX13_four 12 = .ok (.dup, 1) := by decide +kernel
theorem dX13_four_13 : decode cX13_four 13 = .ok (.getfield 364, 3) := by decide +kernel
theorem dX13_four_16 : decode cX13_four 16 = .ok (.dup_x1, 1) := by decide +kernel
theorem dX13_four_17 : decode cX13_four 17 = .ok (.iconst 1, 1) := by decide +kernel
theorem dX13_four_18 : decode cX13_four 18 = .ok (.iadd, 1) := by decide +kernel
theorem dX13_four_19 : decode cX13_four 19 = .ok (.putfield 364, 3) := by decide +kernel
theorem dX13_four_22 : decode cX13_four 22 = .ok (.iload_n 1, 1) := by decide +kernel
theorem dX13_four_23 : decode cX13_four 23 = .ok (.iload_n 2, 1) := by decide +kernel
theorem dX13_four_24 : decode cX13_four 24 = .ok (.ishr, 1) := by decide +kernel
theorem dX13_four_25 : decode cX13_four 25 = .ok (.i2b, 1) := by decide +kernel
theorem dX13_four_26 : decode cX13_four 26 = .ok (.bastore, 1) := by decide +kernel
theorem dX13_four_27 : decode cX13_four 27 = .ok (.iinc 2 (-8), 3) := by decide +kernel
theorem dX13_four_30 : decode cX13_four 30 = .ok (.goto (-27), 3) := by decide +kernel
theorem dX13_four_33 : decode cX13_four 33 = .ok (.return_, 1) := by decide +kernel
theorem dX13_feed_0 : decode cX13_feed 0 = .ok (.aload_n 0, 1) := by decide +kernel
theorem dX13_feed_1 : decode cX13_feed 1 = .ok (.aload_n 0, 1) := by decide +kernel
theorem dX13_feed_2 : decode cX13_feed 2 = .ok (.getfield 364, 3) := by decide +kernel
theorem dX13_feed_5 : decode cX13_feed 5 = .ok (.bipush 20, 2) := by decide +kernel
theorem dX13_feed_7 : decode cX13_feed 7 = .ok (.iadd, 1) := by decide +kernel
theorem dX13_feed_8 : decode cX13_feed 8 = .ok (.sipush 6000, 3) := by decide +kernel
theorem dX13_feed_11 : decode cX13_feed 11 = .ok (.if_icmp .le 7, 3) := by decide +kernel
theorem dX13_feed_14 : decode cX13_feed 14 = .ok (.iconst 1, 1) := by decide +kernel
theorem dX13_feed_15 : decode cX13_feed 15 = .ok (.goto 4, 3) := by decide +kernel
theorem dX13_feed_18 : decode cX13_feed 18 = .ok (.iconst 0, 1) := by decide +kernel
theorem dX13_feed_19 : decode cX13_feed 19 = .ok (.putfield 138, 3) := by decide +kernel
theorem dX13_feed_22 : decode cX13_feed 22 = .ok (.aload_n 0, 1) := by decide +kernel
theorem dX13_feed_23 : decode cX13_feed 23 = .ok (.getfield 138, 3) := by decide +kernel
theorem dX13_feed_26 : decode cX13_feed 26 = .ok (.ifCond .le 5, 3) := by decide +kernel
theorem dX13_feed_29 : decode cX13_feed 29 = .ok (.iconst 0, 1) := by decide +kernel
theorem dX13_feed_30 : decode cX13_feed 30 = .ok (.ireturn, 1) := by decide +kernel
theorem dX13_feed_31 : decode cX13_feed 31 = .ok (.aload_n 0, 1) := by decide +kernel
theorem dX13_feed_32 : decode cX13_feed 32 = .ok (.iload_n 1, 1) := by decide +kernel
theorem dX13_feed_33 : decode cX13_feed 33 = .ok (.invokevirtual 367, 3) := by decide +kernel
theorem dX13_feed_36 : decode cX13_feed 36 = .ok (.aload_n 0, 1) := by decide +kernel
theorem dX13_feed_37 : decode cX13_feed 37 = .ok (.iload_n 2, 1) := by decide +kernel
theorem dX13_feed_38 : decode cX13_feed 38 = .ok (.invokevirtual 367, 3) := by decide +kernel
theorem dX13_feed_41 : decode cX13_feed 41 = .ok (.aload_n 0, 1) := by decide +kernel
theorem dX13_feed_42 : decode cX13_feed 42 = .ok (.iload_n 3, 1) := by decide +kernel
theorem dX13_feed_43 : decode cX13_feed 43 = .ok (.invokevirtual 367, 3) := by decide +kernel
theorem dX13_feed_46 : decode cX13_feed 46 = .ok (.aload_n 0, 1) := by decide +kernel
theorem dX13_feed_47 : decode cX13_feed 47 = .ok (.iload 4, 2) := by decide +kernel
theorem dX13_feed_49 : decode cX13_feed 49 = .ok (.invokevirtual 367, 3) := by decide +kernel
theorem dX13_feed_52 : decode cX13_feed 52 = .ok (.aload_n 0, 1) := by decide +kernel
theorem dX13_feed_53 : decode cX13_feed 53 = .ok (.iload 5, 2) := by decide +kernel
theorem dX13_feed_55 : decode cX13_feed 55 = .ok (.invokevirtual 367, 3) := by decide +kernel
theorem dX13_feed_58 : decode cX13_feed 58 = .ok (.aload_n 0, 1) := by decide +kernel
theorem dX13_feed_59 : decode cX13_feed 59 = .ok (.getfield 364, 3) := by decide +kernel
theorem dX13_feed_62 : decode cX13_feed 62 = .ok (.ireturn, 1) := by decide +kernel
theorem dX13_take_0 : decode cX13_take 0 = .ok (.aload_n 0, 1) := by decide +kernel
theorem dX13_take_1 : decode cX13_take 1 = .ok (.getfield 9, 3) := by decide +kernel
theorem dX13_take_4 : decode cX13_take 4 = .ok (.iconst 0, 1) := by decide +kernel
theorem dX13_take_5 : decode cX13_take 5 = .ok (.aload_n 0, 1) := by decide +kernel
theorem dX13_take_6 : decode cX13_take 6 = .ok (.getfield 13, 3) := by decide +kernel
theorem dX13_take_9 : decode cX13_take 9 = .ok (.iconst 0, 1) := by decide +kernel
theorem dX13_take_10 : decode cX13_take 10 = .ok (.aload_n 0, 1) := by decide +kernel
theorem dX13_take_11 : decode cX13_take 11 = .ok (.getfield 364, 3) := by decide +kernel
theorem dX13_take_14 : decode cX13_take 14 = .ok (.invokestatic 200, 3) := by decide +kernel
theorem dX13_take_17 : decode cX13_take 17 = .ok (.aload_n 0, 1) := by decide +kernel
theorem dX13_take_18 : decode cX13_take 18 = .ok (.aload_n 0, 1) := by decide +kernel
theorem dX13_take_19 : decode cX13_take 19 = .ok (.getfield 364, 3) := by decide +kernel
theorem dX13_take_22 : decode cX13_take 22 = .ok (.putfield 151, 3) := by decide +kernel
theorem dX13_take_25 : decode cX13_take 25 = .ok (.return_, 1) := by decide +kernel
theorem dX13_end_0 : decode cX13_end 0 = .ok (.aload_n 0, 1) := by decide +kernel
theorem dX13_end_1 : decode cX13_end 1 = .ok (.iload_n 1, 1) := by decide +kernel
theorem dX13_end_2 : decode cX13_end 2 = .ok (.ifCond .lt 11, 3) := by decide +kernel
theorem dX13_end_5 : decode cX13_end 5 = .ok (.iload_n 1, 1) := by decide +kernel
theorem dX13_end_6 : decode cX13_end 6 = .ok (.aload_n 0, 1) := by decide +kernel
theorem dX13_end_7 : decode cX13_end 7 = .ok (.getfield 364, 3) := by decide +kernel
theorem dX13_end_10 : decode cX13_end 10 = .ok (.if_icmp .le 7, 3) := by decide +kernel
theorem dX13_end_13 : decode cX13_end 13 = .ok (.iconst 1, 1) := by decide +kernel
theorem dX13_end_14 : decode cX13_end 14 = .ok (.goto 4, 3) := by decide +kernel
theorem dX13_end_17 : decode cX13_end 17 = .ok (.iconst 0, 1) := by decide +kernel
theorem dX13_end_18 : decode cX13_end 18 = .ok (.putfield 138, 3) := by decide +kernel
theorem dX13_end_21 : decode cX13_end 21 = .ok (.aload_n 0, 1) := by decide +kernel
theorem dX13_end_22 : decode cX13_end 22 = .ok (.getfield 138, 3) := by decide +kernel
theorem dX13_end_25 : decode cX13_end 25 = .ok (.ifCond .le 5, 3) := by decide +kernel
theorem dX13_end_28 : decode cX13_end 28 = .ok (.iconst 0, 1) := by decide +kernel
theorem dX13_end_29 : decode cX13_end 29 = .ok (.ireturn, 1) := by decide +kernel
theorem dX13_end_30 : decode cX13_end 30 = .ok (.aload_n 0, 1) := by decide +kernel
theorem dX13_end_31 : decode cX13_end 31 = .ok (.iload_n 1, 1) := by decide +kernel
theorem dX13_end_32 : decode cX13_end 32 = .ok (.putfield 364, 3) := by decide +kernel
theorem dX13_end_35 : decode cX13_end 35 = .ok (.aload_n 0, 1) := by decide +kernel
theorem dX13_end_36 : decode cX13_end 36 = .ok (.invokevirtual 370, 3) := by decide +kernel
theorem dX13_end_39 : decode cX13_end 39 = .ok (.aload_n 0, 1) := by decide +kernel
theorem dX13_end_40 : decode cX13_end 40 = .ok (.iconst 0, 1) := by decide +kernel
theorem dX13_end_41 : decode cX13_end 41 = .ok (.invokevirtual 373, 3) := by decide +kernel
theorem dX13_end_44 : decode cX13_end 44 = .ok (.aload_n 0, 1) := by decide +kernel
theorem dX13_end_45 : decode cX13_end 45 = .ok (.getfield 148, 3) := by decide +kernel
theorem dX13_end_48 : decode cX13_end 48 = .ok (.ireturn, 1) := by decide +kernel
theorem dX13_describe_0 : decode cX13_describe 0 = .ok (.aload_n 0, 1) := by decide +kernel
theorem dX13_describe_1 : decode cX13_describe 1 = .ok (.invokevirtual 370, 3) := by decide +kernel
theorem dX13_describe_4 : decode cX13_describe 4 = .ok (.aload_n 0, 1) := by decide +kernel
theorem dX13_describe_5 : decode cX13_describe 5 = .ok (.iconst 0, 1) := by decide +kernel
theorem dX13_describe_6 : decode cX13_describe 6 = .ok (.putfield 364, 3) := by decide +kernel
theorem dX13_describe_9 : decode cX13_describe 9 = .ok (.aload_n 0, 1) := by decide +kernel
theorem dX13_describe_10 : decode cX13_describe 10 = .ok (.iconst 0, 1) := by decide +kernel
theorem dX13_describe_11 : decode cX13_describe 11 = .ok (.invokevirtual 373, 3) := by decide +kernel
theorem dX13_describe_14 : decode cX13_describe 14 = .ok (.aload_n 0, 1) := by decide +kernel
theorem dX13_describe_15 : decode cX13_describe 15 = .ok (.iconst 0, 1) := by decide +kernel
theorem dX13_describe_16 : decode cX13_describe 16 = .ok (.putfield 377, 3) := by decide +kernel
theorem dX13_describe_19 : decode cX13_describe 19 = .ok (.aload_n 0, 1) := by decide +kernel
theorem dX13_describe_20 : decode cX13_describe 20 = .ok (.iconst (-1), 1) := by decide +kernel
theorem dX13_describe_21 : decode cX13_describe 21 = .ok (.putfield 19, 3) := by decide +kernel
theorem dX13_describe_24 : decode cX13_describe 24 = .ok (.aload_n 0, 1) := by decide +kernel
theorem dX13_describe_25 : decode cX13_describe 25 = .ok (.iconst 0, 1) := by decide +kernel
theorem dX13_describe_26 : decode cX13_describe 26 = .ok (.putfield 138, 3) := by decide +kernel
theorem dX13_describe_29 : decode cX13_describe 29 = .ok (.aload_n 0, 1) := by decide +kernel
theorem dX13_describe_30 : decode cX13_describe 30 = .ok (.invokevirtual 379, 3) := by decide +kernel
theorem dX13_describe_33 : decode cX13_describe 33 = .ok (.goto 31, 3) := by decide +kernel
theorem dX13_describe_36 : decode cX13_describe 36 = .ok (.astore_n 1, 1) := by decide +kernel
theorem dX13_describe_37 : decode cX13_describe 37 = .ok (.aload_n 0, 1) := by decide +kernel
theorem dX13_describe_38 : decode cX13_describe 38 = .ok (.invokevirtual 229, 3) := by decide +kernel
theorem dX13_describe_41 : decode cX13_describe 41 = .ok (.aload_n 0, 1) := by decide +kernel
theorem dX13_describe_42 : decode cX13_describe 42 = .ok (.aload_n 1, 1) := by decide +kernel
theorem dX13_describe_43 : decode cX13_describe 43 = .ok (.getfield 382, 3) := by decide +kernel
theorem dX13_describe_46 : decode cX13_describe 46 = .ok (.putfield 377, 3) := by decide +kernel
theorem dX13_describe_49 : decode cX13_describe 49 = .ok (.aload_n 0, 1) := by decide +kernel
theorem dX13_describe_50 : decode cX13_describe 50 = .ok (.aload_n 1, 1) := by decide +kernel
theorem dX13_describe_51 : decode cX13_describe 51 = .ok (.getfield 383, 3) := by decide +kernel
theorem dX13_describe_54 : decode cX13_describe 54 = .ok (.putfield 19, 3) := by decide +kernel
theorem dX13_describe_57 : decode cX13_describe 57 = .ok (.aload_n 0, 1) := by decide +kernel
theorem dX13_describe_58 : decode cX13_describe 58 = .ok (.iconst 1, 1) := by decide +kernel
theorem dX13_describe_59 : decode cX13_describe 59 = .ok (.putfield 138, 3) := by decide +kernel
theorem dX13_describe_62 : decode cX13_describe 62 = .ok (.iconst 0, 1) := by decide +kernel
theorem dX13_describe_63 : decode cX13_describe 63 = .ok (.ireturn, 1) := by decide +kernel
theorem dX13_describe_64 : decode cX13_describe 64 = .ok (.aload_n 0, 1) := by decide +kernel
theorem dX13_describe_65 : decode cX13_describe 65 = .ok (.getfield 223, 3) := by decide +kernel
theorem dX13_describe_68 : decode cX13_describe 68 = .ok (.ireturn, 1) := by decide +kernel
theorem dX13_assemble_0 : decode cX13_assemble 0 = .ok (.aload_n 0, 1) := by decide +kernel
theorem dX13_assemble_1 : decode cX13_assemble 1 = .ok (.aload_n 0, 1) := by decide +kernel
theorem dX13_assemble_2 : decode cX13_assemble 2 = .ok (.getfield 217, 3) := by decide +kernel
theorem dX13_assemble_5 : decode cX13_assemble 5 = .ok (.ifCond .ne 7, 3) := by decide +kernel
theorem dX13_assemble_8 : decode cX13_assemble 8 = .ok (.iconst 1, 1) := by decide +kernel
theorem dX13_assemble_9 : decode cX13_assemble 9 = .ok (.goto 4, 3) := by decide +kernel
theorem dX13_assemble_12 : decode cX13_assemble 12 = .ok (.iconst 0, 1) := by decide +kernel
theorem dX13_assemble_13 : decode cX13_assemble 13 = .ok (.putfield 138, 3) := by decide +kernel
theorem dX13_assemble_16 : decode cX13_assemble 16 = .ok (.aload_n 0, 1) := by decide +kernel
theorem dX13_assemble_17 : decode cX13_assemble 17 = .ok (.getfield 138, 3) := by decide +kernel
theorem dX13_assemble_20 : decode cX13_assemble 20 = .ok (.ifCond .le 5, 3) := by decide +kernel
theorem dX13_assemble_23 : decode cX13_assemble 23 = .ok (.iconst 0, 1) := by decide +kernel
theorem dX13_assemble_24 : decode cX13_assemble 24 = .ok (.ireturn, 1) := by decide +kernel
theorem dX13_assemble_25 : decode cX13_assemble 25 = .ok (.aload_n 0, 1) := by decide +kernel
theorem dX13_assemble_26 : decode cX13_assemble 26 = .ok (.invokevirtual 370, 3) := by decide +kernel
theorem dX13_assemble_29 : decode cX13_assemble 29 = .ok (.aload_n 0, 1) := by decide +kernel
theorem dX13_assemble_30 : decode cX13_assemble 30 = .ok (.iconst 0, 1) := by decide +kernel
theorem dX13_assemble_31 : decode cX13_assemble 31 = .ok (.putfield 364, 3) := by decide +kernel
theorem dX13_assemble_34 : decode cX13_assemble 34 = .ok (.aload_n 0, 1) := by decide +kernel
theorem dX13_assemble_35 : decode cX13_assemble 35 = .ok (.iconst 1, 1) := by decide +kernel
theorem dX13_assemble_36 : decode cX13_assemble 36 = .ok (.invokevirtual 373, 3) := by decide +kernel
theorem dX13_assemble_39 : decode cX13_assemble 39 = .ok (.aload_n 0, 1) := by decide +kernel
theorem dX13_assemble_40 : decode cX13_assemble 40 = .ok (.iconst 0, 1) := by decide +kernel
theorem dX13_assemble_41 : decode cX13_assemble 41 = .ok (.putfield 377, 3) := by decide +kernel
theorem dX13_assemble_44 : decode cX13_assemble 44 = .ok (.aload_n 0, 1) := by decide +kernel
theorem dX13_assemble_45 : decode cX13_assemble 45 = .ok (.iconst (-1), 1) := by decide +kernel
theorem dX13_assemble_46 : decode cX13_assemble 46 = .ok (.putfield 19, 3) := by decide +kernel
theorem dX13_assemble_49 : decode cX13_assemble 49 = .ok (.aload_n 0, 1) := by decide +kernel
theorem dX13_assemble_50 : decode cX13_assemble 50 = .ok (.invokevirtual 384, 3) := by decide +kernel
theorem dX13_assemble_53 : decode cX13_assemble 53 = .ok (.goto 31, 3) := by decide +kernel
theorem dX13_assemble_56 : decode cX13_assemble 56 = .ok (.astore_n 1, 1) := by decide +kernel
theorem dX13_assemble_57 : decode cX13_assemble 57 = .ok (.aload_n 0, 1) := by decide +kernel
theorem dX13_assemble_58 : decode cX13_assemble 58 = .ok (.invokevirtual 226, 3) := by decide +kernel
theorem dX13_assemble_61 : decode cX13_assemble 61 = .ok (.aload_n 0, 1) := by decide +kernel
theorem dX13_assemble_62 : decode cX13_assemble 62 = .ok (.aload_n 1, 1) := by decide +kernel
theorem dX13_assemble_63 : decode cX13_assemble 63 = .ok (.getfield 382, 3) := by decide +kernel
theorem dX13_assemble_66 : decode cX13_assemble 66 = .ok (.putfield 377, 3) := by decide +kernel
theorem dX13_assemble_69 : decode cX13_assemble 69 = .ok (.aload_n 0, 1) := by decide +kernel
theorem dX13_assemble_70 : decode cX13_assemble 70 = .ok (.aload_n 1, 1) := by decide +kernel
theorem dX13_assemble_71 : decode cX13_assemble 71 = .ok (.getfield 383, 3) := by decide +kernel
theorem dX13_assemble_74 : decode cX13_assemble 74 = .ok (.putfield 19, 3) := by decide +kernel
theorem dX13_assemble_77 : decode cX13_assemble 77 = .ok (.aload_n 0, 1) := by decide +kernel
theorem dX13_assemble_78 : decode cX13_assemble 78 = .ok (.iconst 2, 1) := by decide +kernel
theorem dX13_assemble_79 : decode cX13_assemble 79 = .ok (.putfield 138, 3) := by decide +kernel
theorem dX13_assemble_82 : decode cX13_assemble 82 = .ok (.iconst 0, 1) := by decide +kernel
theorem dX13_assemble_83 : decode cX13_assemble 83 = .ok (.ireturn, 1) := by decide +kernel
theorem dX13_assemble_84 : decode cX13_assemble 84 = .ok (.aload_n 0, 1) := by decide +kernel
theorem dX13_assemble_85 : decode cX13_assemble 85 = .ok (.getfield 283, 3) := by decide +kernel
theorem dX13_assemble_88 : decode cX13_assemble 88 = .ok (.ireturn, 1) := by decide +kernel
theorem dX13_kind__0 : decode cX13_kind_ 0 = .ok (.aload_n 0, 1) := by decide +kernel
theorem dX13_kind__1 : decode cX13_kind_ 1 = .ok (.iconst 0, 1) := by decide +kernel
theorem dX13_kind__2 : decode cX13_kind_ 2 = .ok (.putfield 138, 3) := by decide +kernel
theorem dX13_kind__5 : decode cX13_kind_ 5 = .ok (.aload_n 0, 1) := by decide +kernel
theorem dX13_kind__6 : decode cX13_kind_ 6 = .ok (.getfield 377, 3) := by decide +kernel
theorem dX13_kind__9 : decode cX13_kind_ 9 = .ok (.ireturn, 1) := by decide +kernel
theorem dX13_place_0 : decode cX13_place 0 = .ok (.aload_n 0, 1) := by decide +kernel
theorem dX13_place_1 : decode cX13_place 1 = .ok (.iconst 0, 1) := by decide +kernel
theorem dX13_place_2 : decode cX13_place 2 = .ok (.putfield 138, 3) := by decide +kernel
theorem dX13_place_5 : decode cX13_place 5 = .ok (.aload_n 0, 1) := by decide +kernel
theorem dX13_place_6 : decode cX13_place 6 = .ok (.getfield 19, 3) := by decide +kernel
theorem dX13_place_9 : decode cX13_place 9 = .ok (.ireturn, 1) := by decide +kernel
theorem dX13_isLaid_0 : decode cX13_isLaid 0 = .ok (.aload_n 0, 1) := by decide +kernel
theorem dX13_isLaid_1 : decode cX13_isLaid 1 = .ok (.iload_n 1, 1) := by decide +kernel
theorem dX13_isLaid_2 : decode cX13_isLaid 2 = .ok (.ifCond .lt 19, 3) := by decide +kernel
theorem dX13_isLaid_5 : decode cX13_isLaid 5 = .ok (.iload_n 1, 1) := by decide +kernel
theorem dX13_isLaid_6 : decode cX13_isLaid 6 = .ok (.sipush 4096, 3) := by decide +kernel
theorem dX13_isLaid_9 : decode cX13_isLaid 9 = .ok (.if_icmp .ge 12, 3) := by decide +kernel
theorem dX13_isLaid_12 : decode cX13_isLaid 12 = .ok (.aload_n 0, 1) := by decide +kernel
theorem dX13_isLaid_13 : decode cX13_isLaid 13 = .ok (.getfield 101, 3) := by decide +kernel
theorem dX13_isLaid_16 : decode cX13_isLaid 16 = .ok (.iload_n 1, 1) := by decide +kernel
theorem dX13_isLaid_17 : decode cX13_isLaid 17 = .ok (.baload, 1) := by decide +kernel
theorem dX13_isLaid_18 : decode cX13_isLaid 18 = .ok (.ifCond .ne 7, 3) := by decide +kernel
theorem dX13_isLaid_21 : decode cX13_isLaid 21 = .ok (.iconst 1, 1) := by decide +kernel
theorem dX13_isLaid_22 : decode cX13_isLaid 22 = .ok (.goto 4, 3) := by decide +kernel
theorem dX13_isLaid_25 : decode cX13_isLaid 25 = .ok (.iconst 0, 1) := by decide +kernel
theorem dX13_isLaid_26 : decode cX13_isLaid 26 = .ok (.putfield 138, 3) := by decide +kernel
theorem dX13_isLaid_29 : decode cX13_isLaid 29 = .ok (.aload_n 0, 1) := by decide +kernel
theorem dX13_isLaid_30 : decode cX13_isLaid 30 = .ok (.getfield 138, 3) := by decide +kernel
theorem dX13_isLaid_33 : decode cX13_isLaid 33 = .ok (.ifCond .ne 7, 3) := by decide +kernel
theorem dX13_isLaid_36 : decode cX13_isLaid 36 = .ok (.iconst 1, 1) := by decide +kernel
theorem dX13_isLaid_37 : decode cX13_isLaid 37 = .ok (.goto 4, 3) := by decide +kernel
theorem dX13_isLaid_40 : decode cX13_isLaid 40 = .ok (.iconst 0, 1) := by decide +kernel
theorem dX13_isLaid_41 : decode cX13_isLaid 41 = .ok (.ireturn, 1) := by decide +kernel
theorem dX13_word_0 : decode cX13_word 0 = .ok (.aload_n 0, 1) := by decide +kernel
theorem dX13_word_1 : decode cX13_word 1 = .ok (.iload_n 1, 1) := by decide +kernel
theorem dX13_word_2 : decode cX13_word 2 = .ok (.invokevirtual 387, 3) := by decide +kernel
theorem dX13_word_5 : decode cX13_word 5 = .ok (.ifCond .eq 12, 3) := by decide +kernel
theorem dX13_word_8 : decode cX13_word 8 = .ok (.aload_n 0, 1) := by decide +kernel
theorem dX13_word_9 : decode cX13_word 9 = .ok (.getfield 98, 3) := by decide +kernel
theorem dX13_word_12 : decode cX13_word 12 = .ok (.iload_n 1, 1) := by decide +kernel
theorem dX13_word_13 : decode cX13_word 13 = .ok (.laload, 1) := by decide +kernel
theorem dX13_word_14 : decode cX13_word 14 = .ok (.goto 4, 3) := by decide +kernel
theorem dX13_word_17 : decode cX13_word 17 = .ok (.lconst 0, 1) := by decide +kernel
theorem dX13_word_18 : decode cX13_word 18 = .ok (.lreturn, 1) := by decide +kernel
