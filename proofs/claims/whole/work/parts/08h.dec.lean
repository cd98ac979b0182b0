theorem dX13_isEnd_0 : decode cX13_isEnd 0 = .ok (.aload_n 0, 1) := by decide +kernel
theorem dX13_isEnd_1 : decode cX13_isEnd 1 = .ok (.getfield 26, 3) := by decide +kernel
theorem dX13_isEnd_4 : decode cX13_isEnd 4 = .ok (.iload_n 1, 1) := by decide +kernel
theorem dX13_isEnd_5 : decode cX13_isEnd 5 = .ok (.iaload, 1) := by decide +kernel
theorem dX13_isEnd_6 : decode cX13_isEnd 6 = .ok (.iconst 4, 1) := by decide +kernel
theorem dX13_isEnd_7 : decode cX13_isEnd 7 = .ok (.if_icmp .eq 12, 3) := by decide +kernel
theorem dX13_isEnd_10 : decode cX13_isEnd 10 = .ok (.aload_n 0, 1) := by decide +kernel
theorem dX13_isEnd_11 : decode cX13_isEnd 11 = .ok (.getfield 26, 3) := by decide +kernel
theorem dX13_isEnd_14 : decode cX13_isEnd 14 = .ok (.iload_n 1, 1) := by decide +kernel
theorem dX13_isEnd_15 : decode cX13_isEnd 15 = .ok (.iaload, 1) := by decide +kernel
theorem dX13_isEnd_16 : decode cX13_isEnd 16 = .ok (.ifCond .ne 7, 3) := by decide +kernel
theorem dX13_isEnd_19 : decode cX13_isEnd 19 = .ok (.iconst 1, 1) := by decide +kernel
theorem dX13_isEnd_20 : decode cX13_isEnd 20 = .ok (.goto 4, 3) := by decide +kernel
theorem dX13_isEnd_23 : decode cX13_isEnd 23 = .ok (.iconst 0, 1) := by decide +kernel
theorem dX13_isEnd_24 : decode cX13_isEnd 24 = .ok (.ireturn, 1) := by decide +kernel
theorem dX13_isSame_0 : decode cX13_isSame 0 = .ok (.aload_n 0, 1) := by decide +kernel
theorem dX13_isSame_1 : decode cX13_isSame 1 = .ok (.getfield 33, 3) := by decide +kernel
theorem dX13_isSame_4 : decode cX13_isSame 4 = .ok (.iload_n 1, 1) := by decide +kernel
theorem dX13_isSame_5 : decode cX13_isSame 5 = .ok (.iaload, 1) := by decide +kernel
theorem dX13_isSame_6 : decode cX13_isSame 6 = .ok (.aload_n 0, 1) := by decide +kernel
theorem dX13_isSame_7 : decode cX13_isSame 7 = .ok (.getfield 33, 3) := by decide +kernel
theorem dX13_isSame_10 : decode cX13_isSame 10 = .ok (.iload_n 2, 1) := by decide +kernel
theorem dX13_isSame_11 : decode cX13_isSame 11 = .ok (.iaload, 1) := by decide +kernel
theorem dX13_isSame_12 : decode cX13_isSame 12 = .ok (.if_icmp .eq 5, 3) := by decide +kernel
theorem dX13_isSame_15 : decode cX13_isSame 15 = .ok (.iconst 0, 1) := by decide +kernel
theorem dX13_isSame_16 : decode cX13_isSame 16 = .ok (.ireturn, 1) := by decide +kernel
theorem dX13_isSame_17 : decode cX13_isSame 17 = .ok (.iconst 0, 1) := by decide +kernel
theorem dX13_isSame_18 : decode cX13_isSame 18 = .ok (.istore_n 3, 1) := by decide +kernel
theorem dX13_isSame_19 : decode cX13_isSame 19 = .ok (.iload_n 3, 1) := by decide +kernel
theorem dX13_isSame_20 : decode cX13_isSame 20 = .ok (.aload_n 0, 1) := by decide +kernel
theorem dX13_isSame_21 : decode cX13_isSame 21 = .ok (.getfield 33, 3) := by decide +kernel
theorem dX13_isSame_24 : decode cX13_isSame 24 = .ok (.iload_n 1, 1) := by decide +kernel
theorem dX13_isSame_25 : decode cX13_isSame 25 = .ok (.iaload, 1) := by decide +kernel
theorem dX13_isSame_26 : decode cX13_isSame 26 = .ok (.if_icmp .ge 40, 3) := by decide +kernel
theorem dX13_isSame_29 : decode cX13_isSame 29 = .ok (.aload_n 0, 1) := by decide +kernel
theorem dX13_isSame_30 : decode cX13_isSame 30 = .ok (.getfield 13, 3) := by decide +kernel
theorem dX13_isSame_33 : decode cX13_isSame 33 = .ok (.aload_n 0, 1) := by decide +kernel
theorem dX13_isSame_34 : decode cX13_isSame 34 = .ok (.getfield 30, 3) := by decide +kernel
theorem dX13_isSame_37 : decode cX13_isSame 37 = .ok (.iload_n 1, 1) := by decide +kernel
theorem dX13_isSame_38 : decode cX13_isSame 38 = .ok (.iaload, 1) := by decide +kernel
theorem dX13_isSame_39 : decode cX13_isSame 39 = .ok (.iload_n 3, 1) := by decide +kernel
theorem dX13_isSame_40 : decode cX13_isSame 40 = .ok (.iadd, 1) := by decide +kernel
theorem dX13_isSame_41 : decode cX13_isSame 41 = .ok (.baload, 1) := by decide +kernel
theorem dX13_isSame_42 : decode cX13_isSame 42 = .ok (.aload_n 0, 1) := by decide +kernel
theorem dX13_isSame_43 : decode cX13_isSame 43 = .ok (.getfield 13, 3) := by decide +kernel
theorem dX13_isSame_46 : decode cX13_isSame 46 = .ok (.aload_n 0, 1) := by decide +kernel
theorem dX13_isSame_47 : decode cX13_isSame 47 = .ok (.getfield 30, 3) := by decide +kernel
theorem dX13_isSame_50 : decode cX13_isSame 50 = .ok (.iload_n 2, 1) := by decide +kernel
theorem dX13_isSame_51 : decode cX13_isSame 51 = .ok (.iaload, 1) := by decide +kernel
theorem dX13_isSame_52 : decode cX13_isSame 52 = .ok (.iload_n 3, 1) := by decide +kernel
theorem dX13_isSame_53 : decode cX13_isSame 53 = .ok (.iadd, 1) := by decide +kernel
theorem dX13_isSame_54 : decode cX13_isSame 54 = .ok (.baload, 1) := by decide +kernel
theorem dX13_isSame_55 : decode cX13_isSame 55 = .ok (.if_icmp .eq 5, 3) := by decide +kernel
theorem dX13_isSame_58 : decode cX13_isSame 58 = .ok (.iconst 0, 1) := by decide +kernel
theorem dX13_isSame_59 : decode cX13_isSame 59 = .ok (.ireturn, 1) := by decide +kernel
theorem dX13_isSame_60 : decode cX13_isSame 60 = .ok (.iinc 3 1, 3) := by decide +kernel
theorem dX13_isSame_63 : decode cX13_isSame 63 = .ok (.goto (-44), 3) := by decide +kernel
theorem dX13_isSame_66 : decode cX13_isSame 66 = .ok (.iconst 1, 1) := by decide +kernel
theorem dX13_isSame_67 : decode cX13_isSame 67 = .ok (.ireturn, 1) := by decide +kernel
theorem dX13_labelAt_0 : decode cX13_labelAt 0 = .ok (.iconst 0, 1) := by decide +kernel
theorem dX13_labelAt_1 : decode cX13_labelAt 1 = .ok (.istore_n 2, 1) := by decide +kernel
theorem dX13_labelAt_2 : decode cX13_labelAt 2 = .ok (.iload_n 2, 1) := by decide +kernel
theorem dX13_labelAt_3 : decode cX13_labelAt 3 = .ok (.aload_n 0, 1) := by decide +kernel
theorem dX13_labelAt_4 : decode cX13_labelAt 4 = .ok (.getfield 286, 3) := by decide +kernel
theorem dX13_labelAt_7 : decode cX13_labelAt 7 = .ok (.if_icmp .ge 25, 3) := by decide +kernel
theorem dX13_labelAt_10 : decode cX13_labelAt 10 = .ok (.aload_n 0, 1) := by decide +kernel
theorem dX13_labelAt_11 : decode cX13_labelAt 11 = .ok (.aload_n 0, 1) := by decide +kernel
theorem dX13_labelAt_12 : decode cX13_labelAt 12 = .ok (.getfield 126, 3) := by decide +kernel
theorem dX13_labelAt_15 : decode cX13_labelAt 15 = .ok (.iload_n 2, 1) := by decide +kernel
theorem dX13_labelAt_16 : decode cX13_labelAt 16 = .ok (.iaload, 1) := by decide +kernel
theorem dX13_labelAt_17 : decode cX13_labelAt 17 = .ok (.iload_n 1, 1) := by decide +kernel
theorem dX13_labelAt_18 : decode cX13_labelAt 18 = .ok (.invokevirtual 292, 3) := by decide +kernel
theorem dX13_labelAt_21 : decode cX13_labelAt 21 = .ok (.ifCond .eq 5, 3) := by decide +kernel
theorem dX13_labelAt_24 : decode cX13_labelAt 24 = .ok (.iload_n 2, 1) := by decide +kernel
theorem dX13_labelAt_25 : decode cX13_labelAt 25 = .ok (.ireturn, 1) := by decide +kernel
theorem dX13_labelAt_26 : decode cX13_labelAt 26 = .ok (.iinc 2 1, 3) := by decide +kernel
theorem dX13_labelAt_29 : decode cX13_labelAt 29 = .ok (.goto (-27), 3) := by decide +kernel
theorem dX13_labelAt_32 : decode cX13_labelAt 32 = .ok (.iconst (-1), 1) := by decide +kernel
theorem dX13_labelAt_33 : decode cX13_labelAt 33 = .ok (.ireturn, 1) := by decide +kernel
theorem dX13_lines_0 : decode cX13_lines 0 = .ok (.aload_n 0, 1) := by decide +kernel
theorem dX13_lines_1 : decode cX13_lines 1 = .ok (.iconst 0, 1) := by decide +kernel
theorem dX13_lines_2 : decode cX13_lines 2 = .ok (.putfield 206, 3) := by decide +kernel
theorem dX13_lines_5 : decode cX13_lines 5 = .ok (.aload_n 0, 1) := by decide +kernel
theorem dX13_lines_6 : decode cX13_lines 6 = .ok (.iconst 0, 1) := by decide +kernel
theorem dX13_lines_7 : decode cX13_lines 7 = .ok (.putfield 295, 3) := by decide +kernel
theorem dX13_lines_10 : decode cX13_lines 10 = .ok (.aload_n 0, 1) := by decide +kernel
theorem dX13_lines_11 : decode cX13_lines 11 = .ok (.iconst 0, 1) := by decide +kernel
theorem dX13_lines_12 : decode cX13_lines 12 = .ok (.putfield 286, 3) := by decide +kernel
theorem dX13_lines_15 : decode cX13_lines 15 = .ok (.aload_n 0, 1) := by decide +kernel
theorem dX13_lines_16 : decode cX13_lines 16 = .ok (.getfield 295, 3) := by decide +kernel
theorem dX13_lines_19 : decode cX13_lines 19 = .ok (.istore_n 1, 1) := by decide +kernel
theorem dX13_lines_20 : decode cX13_lines 20 = .ok (.aload_n 0, 1) := by decide +kernel
theorem dX13_lines_21 : decode cX13_lines 21 = .ok (.dup, 1) := by decide +kernel
theorem dX13_lines_22 : decode cX13_lines 22 = .ok (.getfield 295, 3) := by decide +kernel
theorem dX13_lines_25 : decode cX13_lines 25 = .ok (.iconst 1, 1) := by decide +kernel
theorem dX13_lines_26 : decode cX13_lines 26 = .ok (.iadd, 1) := by decide +kernel
theorem dX13_lines_27 : decode cX13_lines 27 = .ok (.putfield 295, 3) := by decide +kernel
theorem dX13_lines_30 : decode cX13_lines 30 = .ok (.aload_n 0, 1) := by decide +kernel
theorem dX13_lines_31 : decode cX13_lines 31 = .ok (.getfield 105, 3) := by decide +kernel
theorem dX13_lines_34 : decode cX13_lines 34 = .ok (.iload_n 1, 1) := by decide +kernel
theorem dX13_lines_35 : decode cX13_lines 35 = .ok (.aload_n 0, 1) := by decide +kernel
theorem dX13_lines_36 : decode cX13_lines 36 = .ok (.getfield 206, 3) := by decide +kernel
theorem dX13_lines_39 : decode cX13_lines 39 = .ok (.iastore, 1) := by decide +kernel
theorem dX13_lines_40 : decode cX13_lines 40 = .ok (.aload_n 0, 1) := by decide +kernel
theorem dX13_lines_41 : decode cX13_lines 41 = .ok (.getfield 120, 3) := by decide +kernel
theorem dX13_lines_44 : decode cX13_lines 44 = .ok (.iload_n 1, 1) := by decide +kernel
theorem dX13_lines_45 : decode cX13_lines 45 = .ok (.iconst 0, 1) := by decide +kernel
theorem dX13_lines_46 : decode cX13_lines 46 = .ok (.iastore, 1) := by decide +kernel
theorem dX13_lines_47 : decode cX13_lines 47 = .ok (.aload_n 0, 1) := by decide +kernel
theorem dX13_lines_48 : decode cX13_lines 48 = .ok (.getfield 26, 3) := by decide +kernel
theorem dX13_lines_51 : decode cX13_lines 51 = .ok (.aload_n 0, 1) := by decide +kernel
theorem dX13_lines_52 : decode cX13_lines 52 = .ok (.getfield 206, 3) := by decide +kernel
theorem dX13_lines_55 : decode cX13_lines 55 = .ok (.iaload, 1) := by decide +kernel
theorem dX13_lines_56 : decode cX13_lines 56 = .ok (.iconst 1, 1) := by decide +kernel
theorem dX13_lines_57 : decode cX13_lines 57 = .ok (.if_icmp .ne 85, 3) := by decide +kernel
theorem dX13_lines_60 : decode cX13_lines 60 = .ok (.aload_n 0, 1) := by decide +kernel
theorem dX13_lines_61 : decode cX13_lines 61 = .ok (.aload_n 0, 1) := by decide +kernel
theorem dX13_lines_62 : decode cX13_lines 62 = .ok (.getfield 206, 3) := by decide +kernel
theorem dX13_lines_65 : decode cX13_lines 65 = .ok (.iconst 1, 1) := by decide +kernel
theorem dX13_lines_66 : decode cX13_lines 66 = .ok (.iadd, 1) := by decide +kernel
theorem dX13_lines_67 : decode cX13_lines 67 = .ok (.bipush 58, 2) := by decide +kernel
theorem dX13_lines_69 : decode cX13_lines 69 = .ok (.invokevirtual 214, 3) := by decide +kernel
theorem dX13_lines_72 : decode cX13_lines 72 = .ok (.ifCond .eq 70, 3) := by decide +kernel
theorem dX13_lines_75 : decode cX13_lines 75 = .ok (.aload_n 0, 1) := by decide +kernel
theorem dX13_lines_76 : decode cX13_lines 76 = .ok (.aload_n 0, 1) := by decide +kernel
theorem dX13_lines_77 : decode cX13_lines 77 = .ok (.getfield 206, 3) := by decide +kernel
theorem dX13_lines_80 : decode cX13_lines 80 = .ok (.invokevirtual 298, 3) := by decide +kernel
theorem dX13_lines_83 : decode cX13_lines 83 = .ok (.ifCond .lt 16, 3) := by decide +kernel
theorem dX13_lines_86 : decode cX13_lines 86 = .ok (.new 209, 3) := by decide +kernel
theorem dX13_lines_89 : decode cX13_lines 89 = .ok (.dup, 1) := by decide +kernel
theorem dX13_lines_90 : decode cX13_lines 90 = .ok (.iconst 2, 1) := by decide +kernel
theorem dX13_lines_91 : decode cX13_lines 91 = .ok (.aload_n 0, 1) := by decide +kernel
theorem dX13_lines_92 : decode cX13_lines 92 = .ok (.getfield 206, 3) := by decide +kernel
theorem dX13_lines_95 : decode cX13_lines 95 = .ok (.invokespecial 211, 3) := by decide +kernel
theorem dX13_lines_98 : decode cX13_lines 98 = .ok (.athrow, 1) := by decide +kernel
theorem dX13_lines_99 : decode cX13_lines 99 = .ok (.aload_n 0, 1) := by decide +kernel
theorem dX13_lines_100 : decode cX13_lines 100 = .ok (.getfield 126, 3) := by decide +kernel
theorem dX13_lines_103 : decode cX13_lines 103 = .ok (.aload_n 0, 1) := by decide +kernel
theorem dX13_lines_104 : decode cX13_lines 104 = .ok (.getfield 286, 3) := by decide +kernel
theorem dX13_lines_107 : decode cX13_lines 107 = .ok (.aload_n 0, 1) := by decide +kernel
theorem dX13_lines_108 : decode cX13_lines 108 = .ok (.getfield 206, 3) := by decide +kernel
theorem dX13_lines_111 : decode cX13_lines 111 = .ok (.iastore, 1) := by decide +kernel
theorem dX13_lines_112 : decode cX13_lines 112 = .ok (.aload_n 0, 1) := by decide +kernel
theorem dX13_lines_113 : decode cX13_lines 113 = .ok (.getfield 129, 3) := by decide +kernel
theorem dX13_lines_116 : decode cX13_lines 116 = .ok (.aload_n 0, 1) := by decide +kernel
theorem dX13_lines_117 : decode cX13_lines 117 = .ok (.getfield 286, 3) := by decide +kernel
theorem dX13_lines_120 : decode cX13_lines 120 = .ok (.iload_n 1, 1) := by decide +kernel
theorem dX13_lines_121 : decode cX13_lines 121 = .ok (.iastore, 1) := by decide +kernel
theorem dX13_lines_122 : decode cX13_lines 122 = .ok (.aload_n 0, 1) := by decide +kernel
theorem dX13_lines_123 : decode cX13_lines 123 = .ok (.dup, 1) := by decide +kernel
theorem dX13_lines_124 : decode cX13_lines 124 = .ok (.getfield 286, 3) := by decide +kernel
theorem dX13_lines_127 : decode cX13_lines 127 = .ok (.iconst 1, 1) := by decide +kernel
theorem dX13_lines_128 : decode cX13_lines 128 = .ok (.iadd, 1) := by decide +kernel
theorem dX13_lines_129 : decode cX13_lines 129 = .ok (.putfield 286, 3) := by decide +kernel
theorem dX13_lines_132 : decode cX13_lines 132 = .ok (.aload_n 0, 1) := by decide +kernel
theorem dX13_lines_133 : decode cX13_lines 133 = .ok (.dup, 1) := by decide +kernel
theorem dX13_lines_134 : decode cX13_lines 134 = .ok (.getfield 206, 3) := by decide +kernel
theorem dX13_lines_137 : decode cX13_lines 137 = .ok (.iconst 2, 1) := by decide +kernel
theorem dX13_lines_138 : decode cX13_lines 138 = .ok (.iadd, 1) := by decide +kernel
theorem dX13_lines_139 : decode cX13_lines 139 = .ok (.putfield 206, 3) := by decide +kernel
theorem dX13_lines_142 : decode cX13_lines 142 = .ok (.aload_n 0, 1) := by decide +kernel
theorem dX13_lines_143 : decode cX13_lines 143 = .ok (.getfield 108, 3) := by decide +kernel
theorem dX13_lines_146 : decode cX13_lines 146 = .ok (.iload_n 1, 1) := by decide +kernel
theorem dX13_lines_147 : decode cX13_lines 147 = .ok (.aload_n 0, 1) := by decide +kernel
theorem dX13_lines_148 : decode cX13_lines 148 = .ok (.getfield 206, 3) := by decide +kernel
theorem dX13_lines_151 : decode cX13_lines 151 = .ok (.iastore, 1) := by decide +kernel
theorem dX13_lines_152 : decode cX13_lines 152 = .ok (.aload_n 0, 1) := by decide +kernel
theorem dX13_lines_153 : decode cX13_lines 153 = .ok (.getfield 111, 3) := by decide +kernel
theorem dX13_lines_156 : decode cX13_lines 156 = .ok (.iload_n 1, 1) := by decide +kernel
theorem dX13_lines_157 : decode cX13_lines 157 = .ok (.iconst 0, 1) := by decide +kernel
theorem dX13_lines_158 : decode cX13_lines 158 = .ok (.iastore, 1) := by decide +kernel
theorem dX13_lines_159 : decode cX13_lines 159 = .ok (.aload_n 0, 1) := by decide +kernel
theorem dX13_lines_160 : decode cX13_lines 160 = .ok (.getfield 26, 3) := by decide +kernel
theorem dX13_lines_163 : decode cX13_lines 163 = .ok (.aload_n 0, 1) := by decide +kernel
theorem dX13_lines_164 : decode cX13_lines 164 = .ok (.getfield 206, 3) := by decide +kernel
theorem dX13_lines_167 : decode cX13_lines 167 = .ok (.iaload, 1) := by decide +kernel
theorem dX13_lines_168 : decode cX13_lines 168 = .ok (.iconst 1, 1) := by decide +kernel
theorem dX13_lines_169 : decode cX13_lines 169 = .ok (.if_icmp .ne 34, 3) := by decide +kernel
theorem dX13_lines_172 : decode cX13_lines 172 = .ok (.aload_n 0, 1) := by decide +kernel
theorem dX13_lines_173 : decode cX13_lines 173 = .ok (.getfield 111, 3) := by decide +kernel
theorem dX13_lines_176 : decode cX13_lines 176 = .ok (.iload_n 1, 1) := by decide +kernel
theorem dX13_lines_177 : decode cX13_lines 177 = .ok (.iconst 1, 1) := by decide +kernel
theorem dX13_lines_178 : decode cX13_lines 178 = .ok (.iastore, 1) := by decide +kernel
theorem dX13_lines_179 : decode cX13_lines 179 = .ok (.aload_n 0, 1) := by decide +kernel
theorem dX13_lines_180 : decode cX13_lines 180 = .ok (.aload_n 0, 1) := by decide +kernel
theorem dX13_lines_181 : decode cX13_lines 181 = .ok (.getfield 206, 3) := by decide +kernel
theorem dX13_lines_184 : decode cX13_lines 184 = .ok (.invokevirtual 301, 3) := by decide +kernel
theorem dX13_lines_187 : decode cX13_lines 187 = .ok (.ifCond .ne 209, 3) := by decide +kernel
theorem dX13_lines_190 : decode cX13_lines 190 = .ok (.aload_n 0, 1) := by decide +kernel
theorem dX13_lines_191 : decode cX13_lines 191 = .ok (.dup, 1) := by decide +kernel
theorem dX13_lines_192 : decode cX13_lines 192 = .ok (.getfield 206, 3) := by decide +kernel
theorem dX13_lines_195 : decode cX13_lines 195 = .ok (.iconst 1, 1) := by decide +kernel
theorem dX13_lines_196 : decode cX13_lines 196 = .ok (.iadd, 1) := by decide +kernel
theorem dX13_lines_197 : decode cX13_lines 197 = .ok (.putfield 206, 3) := by decide +kernel
theorem dX13_lines_200 : decode cX13_lines 200 = .ok (.goto (-21), 3) := by decide +kernel
theorem dX13_lines_203 : decode cX13_lines 203 = .ok (.aload_n 0, 1) := by decide +kernel
theorem dX13_lines_204 : decode cX13_lines 204 = .ok (.aload_n 0, 1) := by decide +kernel
theorem dX13_lines_205 : decode cX13_lines 205 = .ok (.getfield 206, 3) := by decide +kernel
theorem dX13_lines_208 : decode cX13_lines 208 = .ok (.bipush 46, 2) := by decide +kernel
theorem dX13_lines_210 : decode cX13_lines 210 = .ok (.invokevirtual 214, 3) := by decide +kernel
theorem dX13_lines_213 : decode cX13_lines 213 = .ok (.ifCond .eq 183, 3) := by decide +kernel
theorem dX13_lines_216 : decode cX13_lines 216 = .ok (.aload_n 0, 1) := by decide +kernel
theorem dX13_lines_217 : decode cX13_lines 217 = .ok (.dup, 1) := by decide +kernel
theorem dX13_lines_218 : decode cX13_lines 218 = .ok (.getfield 206, 3) := by decide +kernel
theorem dX13_lines_221 : decode cX13_lines 221 = .ok (.iconst 1, 1) := by decide +kernel
theorem dX13_lines_222 : decode cX13_lines 222 = .ok (.iadd, 1) := by decide +kernel
theorem dX13_lines_223 : decode cX13_lines 223 = .ok (.putfield 206, 3) := by decide +kernel
theorem dX13_lines_226 : decode cX13_lines 226 = .ok (.aload_n 0, 1) := by decide +kernel
theorem dX13_lines_227 : decode cX13_lines 227 = .ok (.getfield 111, 3) := by decide +kernel
theorem dX13_lines_230 : decode cX13_lines 230 = .ok (.iload_n 1, 1) := by decide +kernel
theorem dX13_lines_231 : decode cX13_lines 231 = .ok (.aload_n 0, 1) := by decide +kernel
theorem dX13_lines_232 : decode cX13_lines 232 = .ok (.aload_n 0, 1) := by decide +kernel
theorem dX13_lines_233 : decode cX13_lines 233 = .ok (.getfield 206, 3) := by decide +kernel
theorem dX13_lines_236 : decode cX13_lines 236 = .ok (.ldc 232, 2) := by decide +kernel
theorem dX13_lines_238 : decode cX13_lines 238 = .ok (.invokevirtual 233, 3) := by decide +kernel
theorem dX13_lines_241 : decode cX13_lines 241 = .ok (.ifCond .eq 7, 3) := by decide +kernel
theorem dX13_lines_244 : decode cX13_lines 244 = .ok (.iconst 2, 1) := by decide +kernel
theorem dX13_lines_245 : decode cX13_lines 245 = .ok (.goto 22, 3) := by decide +kernel
theorem dX13_lines_248 : decode cX13_lines 248 = .ok (.aload_n 0, 1) := by decide +kernel
theorem dX13_lines_249 : decode cX13_lines 249 = .ok (.aload_n 0, 1) := by decide +kernel
theorem dX13_lines_250 : decode cX13_lines 250 = .ok (.getfield 206, 3) := by decide +kernel
theorem dX13_lines_253 : decode cX13_lines 253 = .ok (.ldc_w 304, 3) := by decide +kernel
theorem dX13_lines_256 : decode cX13_lines 256 = .ok (.invokevirtual 233, 3) := by decide +kernel
theorem dX13_lines_259 : decode cX13_lines 259 = .ok (.ifCond .eq 7, 3) := by decide +kernel
theorem dX13_lines_262 : decode cX13_lines 262 = .ok (.iconst 3, 1) := by decide +kernel
theorem dX13_lines_263 : decode cX13_lines 263 = .ok (.goto 4, 3) := by decide +kernel
theorem dX13_lines_266 : decode cX13_lines 266 = .ok (.iconst 0, 1) := by decide +kernel
theorem dX13_lines_267 : decode cX13_lines 267 = .ok (.iastore, 1) := by decide +kernel
theorem dX13_lines_268 : decode cX13_lines 268 = .ok (.aload_n 0, 1) := by decide +kernel
theorem dX13_lines_269 : decode cX13_lines 269 = .ok (.getfield 111, 3) := by decide +kernel
theorem dX13_lines_272 : decode cX13_lines 272 = .ok (.iload_n 1, 1) := by decide +kernel
theorem dX13_lines_273 : decode cX13_lines 273 = .ok (.iaload, 1) := by decide +kernel
theorem dX13_lines_274 : decode cX13_lines 274 = .ok (.ifCond .ne 16, 3) := by decide +kernel
theorem dX13_lines_277 : decode cX13_lines 277 = .ok (.new 209, 3) := by decide +kernel
theorem dX13_lines_280 : decode cX13_lines 280 = .ok (.dup, 1) := by decide +kernel
theorem dX13_lines_281 : decode cX13_lines 281 = .ok (.iconst 1, 1) := by decide +kernel
theorem dX13_lines_282 : decode cX13_lines 282 = .ok (.aload_n 0, 1) := by decide +kernel
theorem dX13_lines_283 : decode cX13_lines 283 = .ok (.getfield 206, 3) := by decide +kernel
theorem dX13_lines_286 : decode cX13_lines 286 = .ok (.invokespecial 211, 3) := by decide +kernel
theorem dX13_lines_289 : decode cX13_lines 289 = .ok (.athrow, 1) := by decide +kernel
theorem dX13_lines_290 : decode cX13_lines 290 = .ok (.aload_n 0, 1) := by decide +kernel
theorem dX13_lines_291 : decode cX13_lines 291 = .ok (.dup, 1) := by decide +kernel
theorem dX13_lines_292 : decode cX13_lines 292 = .ok (.getfield 206, 3) := by decide +kernel
theorem dX13_lines_295 : decode cX13_lines 295 = .ok (.iconst 1, 1) := by decide +kernel
theorem dX13_lines_296 : decode cX13_lines 296 = .ok (.iadd, 1) := by decide +kernel
theorem dX13_lines_297 : decode cX13_lines 297 = .ok (.putfield 206, 3) := by decide +kernel
theorem dX13_lines_300 : decode cX13_lines 300 = .ok (.aload_n 0, 1) := by decide +kernel
theorem dX13_lines_301 : decode cX13_lines 301 = .ok (.getfield 111, 3) := by decide +kernel
theorem dX13_lines_304 : decode cX13_lines 304 = .ok (.iload_n 1, 1) := by decide +kernel
theorem dX13_lines_305 : decode cX13_lines 305 = .ok (.iaload, 1) := by decide +kernel
theorem dX13_lines_306 : decode cX13_lines 306 = .ok (.iconst 3, 1) := by decide +kernel
theorem dX13_lines_307 : decode cX13_lines 307 = .ok (.if_icmp .ne 15, 3) := by decide +kernel
theorem dX13_lines_310 : decode cX13_lines 310 = .ok (.aload_n 0, 1) := by decide +kernel
theorem dX13_lines_311 : decode cX13_lines 311 = .ok (.lconst 0, 1) := by decide +kernel
theorem dX13_lines_312 : decode cX13_lines 312 = .ok (.ldc2_w 305, 3) := by decide +kernel
theorem dX13_lines_315 : decode cX13_lines 315 = .ok (.invokevirtual 274, 3) := by decide +kernel
theorem dX13_lines_318 : decode cX13_lines 318 = .ok (.pop, 1) := by decide +kernel
theorem dX13_lines_319 : decode cX13_lines 319 = .ok (.goto 77, 3) := by decide +kernel
theorem dX13_lines_322 : decode cX13_lines 322 = .ok (.aload_n 0, 1) := by decide +kernel
theorem dX13_lines_323 : decode cX13_lines 323 = .ok (.lconst 0, 1) := by decide +kernel
theorem dX13_lines_324 : decode cX13_lines 324 = .ok (.lconst 1, 1) := by decide +kernel
theorem dX13_lines_325 : decode cX13_lines 325 = .ok (.aload_n 0, 1) := by decide +kernel
theorem dX13_lines_326 : decode cX13_lines 326 = .ok (.getfield 217, 3) := by decide +kernel
theorem dX13_lines_329 : decode cX13_lines 329 = .ok (.lshl, 1) := by decide +kernel
theorem dX13_lines_330 : decode cX13_lines 330 = .ok (.lconst 1, 1) := by decide +kernel
theorem dX13_lines_331 : decode cX13_lines 331 = .ok (.lsub, 1) := by decide +kernel
theorem dX13_lines_332 : decode cX13_lines 332 = .ok (.invokevirtual 274, 3) := by decide +kernel
theorem dX13_lines_335 : decode cX13_lines 335 = .ok (.pop, 1) := by decide +kernel
theorem dX13_lines_336 : decode cX13_lines 336 = .ok (.aload_n 0, 1) := by decide +kernel
theorem dX13_lines_337 : decode cX13_lines 337 = .ok (.getfield 120, 3) := by decide +kernel
theorem dX13_lines_340 : decode cX13_lines 340 = .ok (.iload_n 1, 1) := by decide +kernel
theorem dX13_lines_341 : decode cX13_lines 341 = .ok (.dup2, 1) := by decide +kernel
theorem dX13_lines_342 : decode cX13_lines 342 = .ok (.iaload, 1) := by decide +kernel
theorem dX13_lines_343 : decode cX13_lines 343 = .ok (.iconst 1, 1) := by decide +kernel
theorem dX13_lines_344 : decode cX13_lines 344 = .ok (.iadd, 1) := by decide +kernel
theorem dX13_lines_345 : decode cX13_lines 345 = .ok (.iastore, 1) := by decide +kernel
theorem dX13_lines_346 : decode cX13_lines 346 = .ok (.aload_n 0, 1) := by decide +kernel
theorem dX13_lines_347 : decode cX13_lines 347 = .ok (.aload_n 0, 1) := by decide +kernel
theorem dX13_lines_348 : decode cX13_lines 348 = .ok (.getfield 206, 3) := by decide +kernel
theorem dX13_lines_351 : decode cX13_lines 351 = .ok (.bipush 44, 2) := by decide +kernel
theorem dX13_lines_353 : decode cX13_lines 353 = .ok (.invokevirtual 214, 3) := by decide +kernel
theorem dX13_lines_356 : decode cX13_lines 356 = .ok (.ifCond .eq 40, 3) := by decide +kernel
theorem dX13_lines_359 : decode cX13_lines 359 = .ok (.aload_n 0, 1) := by decide +kernel
theorem dX13_lines_360 : decode cX13_lines 360 = .ok (.dup, 1) := by decide +kernel
theorem dX13_lines_361 : decode cX13_lines 361 = .ok (.getfield 206, 3) := by decide +kernel
theorem dX13_lines_364 : decode cX13_lines 364 = .ok (.iconst 1, 1) := by decide +kernel
theorem dX13_lines_365 : decode cX13_lines 365 = .ok (.iadd, 1) := by decide +kernel
theorem dX13_lines_366 : decode cX13_lines 366 = .ok (.putfield 206, 3) := by decide +kernel
theorem dX13_lines_369 : decode cX13_lines 369 = .ok (.aload_n 0, 1) := by decide +kernel
theorem dX13_lines_370 : decode cX13_lines 370 = .ok (.lconst 0, 1) := by decide +kernel
theorem dX13_lines_371 : decode cX13_lines 371 = .ok (.lconst 1, 1) := by decide +kernel
theorem dX13_lines_372 : decode cX13_lines 372 = .ok (.aload_n 0, 1) := by decide +kernel
theorem dX13_lines_373 : decode cX13_lines 373 = .ok (.getfield 217, 3) := by decide +kernel
theorem dX13_lines_376 : decode cX13_lines 376 = .ok (.lshl, 1) := by decide +kernel
theorem dX13_lines_377 : decode cX13_lines 377 = .ok (.lconst 1, 1) := by decide +kernel
theorem dX13_lines_378 : decode cX13_lines 378 = .ok (.lsub, 1) := by decide +kernel
theorem dX13_lines_379 : decode cX13_lines 379 = .ok (.invokevirtual 274, 3) := by decide +kernel
theorem dX13_lines_382 : decode cX13_lines 382 = .ok (.pop, 1) := by decide +kernel
theorem dX13_lines_383 : decode cX13_lines 383 = .ok (.aload_n 0, 1) := by decide +kernel
theorem dX13_lines_384 : decode cX13_lines 384 = .ok (.getfield 120, 3) := by decide +kernel
theorem dX13_lines_387 : decode cX13_lines 387 = .ok (.iload_n 1, 1) := by decide +kernel
theorem dX13_lines_388 : decode cX13_lines 388 = .ok (.dup2, 1) := by decide +kernel
theorem dX13_lines_389 : decode cX13_lines 389 = .ok (.iaload, 1) := by decide +kernel
theorem dX13_lines_390 : decode cX13_lines 390 = .ok (.iconst 1, 1) := by decide +kernel
theorem dX13_lines_391 : decode cX13_lines 391 = .ok (.iadd, 1) := by decide +kernel
theorem dX13_lines_392 : decode cX13_lines 392 = .ok (.iastore, 1) := by decide +kernel
theorem dX13_lines_393 : decode cX13_lines 393 = .ok (.goto (-47), 3) := by decide +kernel
theorem dX13_lines_396 : decode cX13_lines 396 = .ok (.aload_n 0, 1) := by decide +kernel
theorem dX13_lines_397 : decode cX13_lines 397 = .ok (.getfield 123, 3) := by decide +kernel
theorem dX13_lines_400 : decode cX13_lines 400 = .ok (.iload_n 1, 1) := by decide +kernel
theorem dX13_lines_401 : decode cX13_lines 401 = .ok (.aload_n 0, 1) := by decide +kernel
theorem dX13_lines_402 : decode cX13_lines 402 = .ok (.getfield 206, 3) := by decide +kernel
theorem dX13_lines_405 : decode cX13_lines 405 = .ok (.iastore, 1) := by decide +kernel
theorem dX13_lines_406 : decode cX13_lines 406 = .ok (.aload_n 0, 1) := by decide +kernel
theorem dX13_lines_407 : decode cX13_lines 407 = .ok (.getfield 26, 3) := by decide +kernel
theorem dX13_lines_410 : decode cX13_lines 410 = .ok (.aload_n 0, 1) := by decide +kernel
theorem dX13_lines_411 : decode cX13_lines 411 = .ok (.getfield 206, 3) := by decide +kernel
theorem dX13_lines_414 : decode cX13_lines 414 = .ok (.iaload, 1) := by decide +kernel
theorem dX13_lines_415 : decode cX13_lines 415 = .ok (.ifCond .ne 4, 3) := by decide +kernel
theorem dX13_lines_418 : decode cX13_lines 418 = .ok (.return_, 1) := by decide +kernel
theorem dX13_lines_419 : decode cX13_lines 419 = .ok (.aload_n 0, 1) := by decide +kernel
theorem dX13_lines_420 : decode cX13_lines 420 = .ok (.getfield 26, 3) := by decide +kernel
theorem dX13_lines_423 : decode cX13_lines 423 = .ok (.aload_n 0, 1) := by decide +kernel
theorem dX13_lines_424 : decode cX13_lines 424 = .ok (.getfield 206, 3) := by decide +kernel
theorem dX13_lines_427 : decode cX13_lines 427 = .ok (.iaload, 1) := by decide +kernel
theorem dX13_lines_428 : decode cX13_lines 428 = .ok (.iconst 4, 1) := by decide +kernel
theorem dX13_lines_429 : decode cX13_lines 429 = .ok (.if_icmp .eq 16, 3) := by decide +kernel
theorem dX13_lines_432 : decode cX13_lines 432 = .ok (.new 209, 3) := by decide +kernel
theorem dX13_lines_435 : decode cX13_lines 435 = .ok (.dup, 1) := by decide +kernel
theorem dX13_lines_436 : decode cX13_lines 436 = .ok (.iconst 1, 1) := by decide +kernel
theorem dX13_lines_437 : decode cX13_lines 437 = .ok (.aload_n 0, 1) := by decide +kernel
theorem dX13_lines_438 : decode cX13_lines 438 = .ok (.getfield 206, 3) := by decide +kernel
theorem dX13_lines_441 : decode cX13_lines 441 = .ok (.invokespecial 211, 3) := by decide +kernel
theorem dX13_lines_444 : decode cX13_lines 444 = .ok (.athrow, 1) := by decide +kernel
theorem dX13_lines_445 : decode cX13_lines 445 = .ok (.aload_n 0, 1) := by decide +kernel
theorem dX13_lines_446 : decode cX13_lines 446 = .ok (.dup, 1) := by decide +kernel
theorem dX13_lines_447 : decode cX13_lines 447 = .ok (.getfield 206, 3) := by decide +kernel
theorem dX13_lines_450 : decode cX13_lines 450 = .ok (.iconst 1, 1) := by decide +kernel
theorem dX13_lines_451 : decode cX13_lines 451 = .ok (.iadd, 1) := by decide +kernel
theorem dX13_lines_452 : decode cX13_lines 452 = .ok (.putfield 206, 3) := by decide +kernel
theorem dX13_lines_455 : decode cX13_lines 455 = .ok (.goto (-440), 3) := by decide +kernel
theorem dX13_operand_0 : decode cX13_operand 0 = .ok (.aload_n 0, 1) := by decide +kernel
theorem dX13_operand_1 : decode cX13_operand 1 = .ok (.getfield 132, 3) := by decide +kernel
theorem dX13_operand_4 : decode cX13_operand 4 = .ok (.iload_n 3, 1) := by decide +kernel
theorem dX13_operand_5 : decode cX13_operand 5 = .ok (.iconst (-1), 1) := by decide +kernel
theorem dX13_operand_6 : decode cX13_operand 6 = .ok (.iastore, 1) := by decide +kernel
theorem dX13_operand_7 : decode cX13_operand 7 = .ok (.aload_n 0, 1) := by decide +kernel
theorem dX13_operand_8 : decode cX13_operand 8 = .ok (.getfield 53, 3) := by decide +kernel
theorem dX13_operand_11 : decode cX13_operand 11 = .ok (.iload_n 2, 1) := by decide +kernel
theorem dX13_operand_12 : decode cX13_operand 12 = .ok (.iaload, 1) := by decide +kernel
theorem dX13_operand_13 : decode cX13_operand 13 = .ok (.ifCond .ne 223, 3) := by decide +kernel
theorem dX13_operand_16 : decode cX13_operand 16 = .ok (.aload_n 0, 1) := by decide +kernel
theorem dX13_operand_17 : decode cX13_operand 17 = .ok (.getfield 56, 3) := by decide +kernel
theorem dX13_operand_20 : decode cX13_operand 20 = .ok (.iload_n 2, 1) := by decide +kernel
theorem dX13_operand_21 : decode cX13_operand 21 = .ok (.iaload, 1) := by decide +kernel
theorem dX13_operand_22 : decode cX13_operand 22 = .ok (.istore 4, 2) := by decide +kernel
theorem dX13_operand_24 : decode cX13_operand 24 = .ok (.aload_n 0, 1) := by decide +kernel
theorem dX13_operand_25 : decode cX13_operand 25 = .ok (.getfield 47, 3) := by decide +kernel
theorem dX13_operand_28 : decode cX13_operand 28 = .ok (.iload 4, 2) := by decide +kernel
theorem dX13_operand_30 : decode cX13_operand 30 = .ok (.iaload, 1) := by decide +kernel
theorem dX13_operand_31 : decode cX13_operand 31 = .ok (.istore 5, 2) := by decide +kernel
theorem dX13_operand_33 : decode cX13_operand 33 = .ok (.iconst 0, 1) := by decide +kernel
theorem dX13_operand_34 : decode cX13_operand 34 = .ok (.istore 6, 2) := by decide +kernel
theorem dX13_operand_36 : decode cX13_operand 36 = .ok (.aload_n 0, 1) := by decide +kernel
theorem dX13_operand_37 : decode cX13_operand 37 = .ok (.getfield 26, 3) := by decide +kernel
theorem dX13_operand_40 : decode cX13_operand 40 = .ok (.iload_n 1, 1) := by decide +kernel
theorem dX13_operand_41 : decode cX13_operand 41 = .ok (.iaload, 1) := by decide +kernel
theorem dX13_operand_42 : decode cX13_operand 42 = .ok (.iconst 1, 1) := by decide +kernel
theorem dX13_operand_43 : decode cX13_operand 43 = .ok (.if_icmp .ne 27, 3) := by decide +kernel
theorem dX13_operand_46 : decode cX13_operand 46 = .ok (.aload_n 0, 1) := by decide +kernel
theorem dX13_operand_47 : decode cX13_operand 47 = .ok (.getfield 33, 3) := by decide +kernel
theorem dX13_operand_50 : decode cX13_operand 50 = .ok (.iload_n 1, 1) := by decide +kernel
theorem dX13_operand_51 : decode cX13_operand 51 = .ok (.iaload, 1) := by decide +kernel
theorem dX13_operand_52 : decode cX13_operand 52 = .ok (.iload 5, 2) := by decide +kernel
theorem dX13_operand_54 : decode cX13_operand 54 = .ok (.if_icmp .le 16, 3) := by decide +kernel
theorem dX13_operand_57 : decode cX13_operand 57 = .ok (.aload_n 0, 1) := by decide +kernel
theorem dX13_operand_58 : decode cX13_operand 58 = .ok (.getfield 33, 3) := by decide +kernel
theorem dX13_operand_61 : decode cX13_operand 61 = .ok (.iload_n 1, 1) := by decide +kernel
theorem dX13_operand_62 : decode cX13_operand 62 = .ok (.iaload, 1) := by decide +kernel
theorem dX13_operand_63 : decode cX13_operand 63 = .ok (.iload 5, 2) := by decide +kernel
theorem dX13_operand_65 : decode cX13_operand 65 = .ok (.iconst 2, 1) := by decide +kernel
theorem dX13_operand_66 : decode cX13_operand 66 = .ok (.iadd, 1) := by decide +kernel
theorem dX13_operand_67 : decode cX13_operand 67 = .ok (.if_icmp .le 5, 3) := by decide +kernel
theorem dX13_operand_70 : decode cX13_operand 70 = .ok (.iconst (-1), 1) := by decide +kernel
theorem dX13_operand_71 : decode cX13_operand 71 = .ok (.ireturn, 1) := by decide +kernel
theorem dX13_operand_72 : decode cX13_operand 72 = .ok (.iconst 0, 1) := by decide +kernel
theorem dX13_operand_73 : decode cX13_operand 73 = .ok (.istore 7, 2) := by decide +kernel
theorem dX13_operand_75 : decode cX13_operand 75 = .ok (.iload 7, 2) := by decide +kernel
theorem dX13_operand_77 : decode cX13_operand 77 = .ok (.iload 5, 2) := by decide +kernel
theorem dX13_operand_79 : decode cX13_operand 79 = .ok (.if_icmp .ge 43, 3) := by decide +kernel
theorem dX13_operand_82 : decode cX13_operand 82 = .ok (.aload_n 0, 1) := by decide +kernel
theorem dX13_operand_83 : decode cX13_operand 83 = .ok (.getfield 41, 3) := by decide +kernel
theorem dX13_operand_86 : decode cX13_operand 86 = .ok (.aload_n 0, 1) := by decide +kernel
theorem dX13_operand_87 : decode cX13_operand 87 = .ok (.getfield 44, 3) := by decide +kernel
theorem dX13_operand_90 : decode cX13_operand 90 = .ok (.iload 4, 2) := by decide +kernel
theorem dX13_operand_92 : decode cX13_operand 92 = .ok (.iaload, 1) := by decide +kernel
theorem dX13_operand_93 : decode cX13_operand 93 = .ok (.iload 7, 2) := by decide +kernel
theorem dX13_operand_95 : decode cX13_operand 95 = .ok (.iadd, 1) := by decide +kernel
theorem dX13_operand_96 : decode cX13_operand 96 = .ok (.baload, 1) := by decide +kernel
theorem dX13_operand_97 : decode cX13_operand 97 = .ok (.aload_n 0, 1) := by decide +kernel
theorem dX13_operand_98 : decode cX13_operand 98 = .ok (.getfield 13, 3) := by decide +kernel
theorem dX13_operand_101 : decode cX13_operand 101 = .ok (.aload_n 0, 1) := by decide +kernel
theorem dX13_operand_102 : decode cX13_operand 102 = .ok (.getfield 30, 3) := by decide +kernel
theorem dX13_operand_105 : decode cX13_operand 105 = .ok (.iload_n 1, 1) := by decide +kernel
theorem dX13_operand_106 : decode cX13_operand 106 = .ok (.iaload, 1) := by decide +kernel
theorem dX13_operand_107 : decode cX13_operand 107 = .ok (.iload 7, 2) := by decide +kernel
theorem dX13_operand_109 : decode cX13_operand 109 = .ok (.iadd, 1) := by decide +kernel
theorem dX13_operand_110 : decode cX13_operand 110 = .ok (.baload, 1) := by decide +kernel
theorem dX13_operand_111 : decode cX13_operand 111 = .ok (.if_icmp .eq 5, 3) := by decide +kernel
theorem dX13_operand_114 : decode cX13_operand 114 = .ok (.iconst (-1), 1) := by decide +kernel
theorem dX13_operand_115 : decode cX13_operand 115 = .ok (.ireturn, 1) := by decide +kernel
theorem dX13_operand_116 : decode cX13_operand 116 = .ok (.iinc 7 1, 3) := by decide +kernel
theorem dX13_operand_119 : decode cX13_operand 119 = .ok (.goto (-44), 3) := by decide +kernel
theorem dX13_operand_122 : decode cX13_operand 122 = .ok (.iload 5, 2) := by decide +kernel
theorem dX13_operand_124 : decode cX13_operand 124 = .ok (.istore 7, 2) := by decide +kernel
theorem dX13_operand_126 : decode cX13_operand 126 = .ok (.iload 7, 2) := by decide +kernel
theorem dX13_operand_128 : decode cX13_operand 128 = .ok (.aload_n 0, 1) := by decide +kernel
theorem dX13_operand_129 : decode cX13_operand 129 = .ok (.getfield 33, 3) := by decide +kernel
theorem dX13_operand_132 : decode cX13_operand 132 = .ok (.iload_n 1, 1) := by decide +kernel
theorem dX13_operand_133 : decode cX13_operand 133 = .ok (.iaload, 1) := by decide +kernel
theorem dX13_operand_134 : decode cX13_operand 134 = .ok (.if_icmp .ge 56, 3) := by decide +kernel
theorem dX13_operand_137 : decode cX13_operand 137 = .ok (.aload_n 0, 1) := by decide +kernel
theorem dX13_operand_138 : decode cX13_operand 138 = .ok (.getfield 13, 3) := by decide +kernel
theorem dX13_operand_141 : decode cX13_operand 141 = .ok (.aload_n 0, 1) := by decide +kernel
theorem dX13_operand_142 : decode cX13_operand 142 = .ok (.getfield 30, 3) := by decide +kernel
theorem dX13_operand_145 : decode cX13_operand 145 = .ok (.iload_n 1, 1) := by decide +kernel
theorem dX13_operand_146 : decode cX13_operand 146 = .ok (.iaload, 1) := by decide +kernel
theorem dX13_operand_147 : decode cX13_operand 147 = .ok (.iload 7, 2) := by decide +kernel
theorem dX13_operand_149 : decode cX13_operand 149 = .ok (.iadd, 1) := by decide +kernel
theorem dX13_operand_150 : decode cX13_operand 150 = .ok (.baload, 1) := by decide +kernel
theorem dX13_operand_151 : decode cX13_operand 151 = .ok (.invokestatic 141, 3) := by decide +kernel
theorem dX13_operand_154 : decode cX13_operand 154 = .ok (.ifCond .ne 5, 3) := by decide +kernel
theorem dX13_operand_157 : decode cX13_operand 157 = .ok (.iconst (-1), 1) := by decide +kernel
theorem dX13_operand_158 : decode cX13_operand 158 = .ok (.ireturn, 1) := by decide +kernel
theorem dX13_operand_159 : decode cX13_operand 159 = .ok (.bipush 10, 2) := by decide +kernel
theorem dX13_operand_161 : decode cX13_operand 161 = .ok (.iload 6, 2) := by decide +kernel
theorem dX13_operand_163 : decode cX13_operand 163 = .ok (.imul, 1) := by decide +kernel
theorem dX13_operand_164 : decode cX13_operand 164 = .ok (.aload_n 0, 1) := by decide +kernel
theorem dX13_operand_165 : decode cX13_operand 165 = .ok (.getfield 13, 3) := by decide +kernel
theorem dX13_operand_168 : decode cX13_operand 168 = .ok (.aload_n 0, 1) := by decide +kernel
theorem dX13_operand_169 : decode cX13_operand 169 = .ok (.getfield 30, 3) := by decide +kernel
theorem dX13_operand_172 : decode cX13_operand 172 = .ok (.iload_n 1, 1) := by decide +kernel
theorem dX13_operand_173 : decode cX13_operand 173 = .ok (.iaload, 1) := by decide +kernel
theorem dX13_operand_174 : decode cX13_operand 174 = .ok (.iload 7, 2) := by decide +kernel
theorem dX13_operand_176 : decode cX13_operand 176 = .ok (.iadd, 1) := by decide +kernel
theorem dX13_operand_177 : decode cX13_operand 177 = .ok (.baload, 1) := by decide +kernel
theorem dX13_operand_178 : decode cX13_operand 178 = .ok (.iadd, 1) := by decide +kernel
theorem dX13_operand_179 : decode cX13_operand 179 = .ok (.bipush 48, 2) := by decide +kernel
theorem dX13_operand_181 : decode cX13_operand 181 = .ok (.isub, 1) := by decide +kernel
theorem dX13_operand_182 : decode cX13_operand 182 = .ok (.istore 6, 2) := by decide +kernel
theorem dX13_operand_184 : decode cX13_operand 184 = .ok (.iinc 7 1, 3) := by decide +kernel
theorem dX13_operand_187 : decode cX13_operand 187 = .ok (.goto (-61), 3) := by decide +kernel
theorem dX13_operand_190 : decode cX13_operand 190 = .ok (.iload 6, 2) := by decide +kernel
theorem dX13_operand_192 : decode cX13_operand 192 = .ok (.aload_n 0, 1) := by decide +kernel
theorem dX13_operand_193 : decode cX13_operand 193 = .ok (.getfield 59, 3) := by decide +kernel
theorem dX13_operand_196 : decode cX13_operand 196 = .ok (.iload_n 2, 1) := by decide +kernel
theorem dX13_operand_197 : decode cX13_operand 197 = .ok (.iaload, 1) := by decide +kernel
theorem dX13_operand_198 : decode cX13_operand 198 = .ok (.if_icmp .ge 23, 3) := by decide +kernel
theorem dX13_operand_201 : decode cX13_operand 201 = .ok (.aload_n 0, 1) := by decide +kernel
theorem dX13_operand_202 : decode cX13_operand 202 = .ok (.getfield 33, 3) := by decide +kernel
theorem dX13_operand_205 : decode cX13_operand 205 = .ok (.iload_n 1, 1) := by decide +kernel
theorem dX13_operand_206 : decode cX13_operand 206 = .ok (.iaload, 1) := by decide +kernel
theorem dX13_operand_207 : decode cX13_operand 207 = .ok (.iload 5, 2) := by decide +kernel
theorem dX13_operand_209 : decode cX13_operand 209 = .ok (.iconst 2, 1) := by decide +kernel
theorem dX13_operand_210 : decode cX13_operand 210 = .ok (.iadd, 1) := by decide +kernel
theorem dX13_operand_211 : decode cX13_operand 211 = .ok (.if_icmp .ne 12, 3) := by decide +kernel
theorem dX13_operand_214 : decode cX13_operand 214 = .ok (.iload 6, 2) := by decide +kernel
theorem dX13_operand_216 : decode cX13_operand 216 = .ok (.bipush 10, 2) := by decide +kernel
theorem dX13_operand_218 : decode cX13_operand 218 = .ok (.if_icmp .ge 5, 3) := by decide +kernel
theorem dX13_operand_221 : decode cX13_operand 221 = .ok (.iconst (-1), 1) := by decide +kernel
theorem dX13_operand_222 : decode cX13_operand 222 = .ok (.ireturn, 1) := by decide +kernel
theorem dX13_operand_223 : decode cX13_operand 223 = .ok (.aload_n 0, 1) := by decide +kernel
theorem dX13_operand_224 : decode cX13_operand 224 = .ok (.getfield 135, 3) := by decide +kernel
theorem dX13_operand_227 : decode cX13_operand 227 = .ok (.iload_n 3, 1) := by decide +kernel
theorem dX13_operand_228 : decode cX13_operand 228 = .ok (.iload 6, 2) := by decide +kernel
theorem dX13_operand_230 : decode cX13_operand 230 = .ok (.i2l, 1) := by decide +kernel
theorem dX13_operand_231 : decode cX13_operand 231 = .ok (.lastore, 1) := by decide +kernel
theorem dX13_operand_232 : decode cX13_operand 232 = .ok (.iload_n 1, 1) := by decide +kernel
theorem dX13_operand_233 : decode cX13_operand 233 = .ok (.iconst 1, 1) := by decide +kernel
theorem dX13_operand_234 : decode cX13_operand 234 = .ok (.iadd, 1) := by decide +kernel
theorem dX13_operand_235 : decode cX13_operand 235 = .ok (.ireturn, 1) := by decide +kernel
theorem dX13_operand_236 : decode cX13_operand 236 = .ok (.aload_n 0, 1) := by decide +kernel
theorem dX13_operand_237 : decode cX13_operand 237 = .ok (.getfield 53, 3) := by decide +kernel
theorem dX13_operand_240 : decode cX13_operand 240 = .ok (.iload_n 2, 1) := by decide +kernel
theorem dX13_operand_241 : decode cX13_operand 241 = .ok (.iaload, 1) := by decide +kernel
theorem dX13_operand_242 : decode cX13_operand 242 = .ok (.iconst 4, 1) := by decide +kernel
theorem dX13_operand_243 : decode cX13_operand 243 = .ok (.if_icmp .ne 73, 3) := by decide +kernel
theorem dX13_operand_246 : decode cX13_operand 246 = .ok (.aload_n 0, 1) := by decide +kernel
theorem dX13_operand_247 : decode cX13_operand 247 = .ok (.getfield 26, 3) := by decide +kernel
theorem dX13_operand_250 : decode cX13_operand 250 = .ok (.iload_n 1, 1) := by decide +kernel
theorem dX13_operand_251 : decode cX13_operand 251 = .ok (.iaload, 1) := by decide +kernel
theorem dX13_operand_252 : decode cX13_operand 252 = .ok (.iconst 1, 1) := by decide +kernel
theorem dX13_operand_253 : decode cX13_operand 253 = .ok (.if_icmp .eq 5, 3) := by decide +kernel
theorem dX13_operand_256 : decode cX13_operand 256 = .ok (.iconst (-1), 1) := by decide +kernel
theorem dX13_operand_257 : decode cX13_operand 257 = .ok (.ireturn, 1) := by decide +kernel
theorem dX13_operand_258 : decode cX13_operand 258 = .ok (.iconst 0, 1) := by decide +kernel
theorem dX13_operand_259 : decode cX13_operand 259 = .ok (.istore 4, 2) := by decide +kernel
theorem dX13_operand_261 : decode cX13_operand 261 = .ok (.iload 4, 2) := by decide +kernel
theorem dX13_operand_263 : decode cX13_operand 263 = .ok (.aload_n 0, 1) := by decide +kernel
theorem dX13_operand_264 : decode cX13_operand 264 = .ok (.getfield 59, 3) := by decide +kernel
theorem dX13_operand_267 : decode cX13_operand 267 = .ok (.iload_n 2, 1) := by decide +kernel
theorem dX13_operand_268 : decode cX13_operand 268 = .ok (.iaload, 1) := by decide +kernel
theorem dX13_operand_269 : decode cX13_operand 269 = .ok (.if_icmp .ge 45, 3) := by decide +kernel
theorem dX13_operand_272 : decode cX13_operand 272 = .ok (.aload_n 0, 1) := by decide +kernel
theorem dX13_operand_273 : decode cX13_operand 273 = .ok (.aload_n 0, 1) := by decide +kernel
theorem dX13_operand_274 : decode cX13_operand 274 = .ok (.getfield 65, 3) := by decide +kernel
theorem dX13_operand_277 : decode cX13_operand 277 = .ok (.bipush 32, 2) := by decide +kernel
theorem dX13_operand_279 : decode cX13_operand 279 = .ok (.iload_n 2, 1) := by decide +kernel
theorem dX13_operand_280 : decode cX13_operand 280 = .ok (.imul, 1) := by decide +kernel
theorem dX13_operand_281 : decode cX13_operand 281 = .ok (.iload 4, 2) := by decide +kernel
theorem dX13_operand_283 : decode cX13_operand 283 = .ok (.iadd, 1) := by decide +kernel
theorem dX13_operand_284 : decode cX13_operand 284 = .ok (.iaload, 1) := by decide +kernel
theorem dX13_operand_285 : decode cX13_operand 285 = .ok (.iload_n 1, 1) := by decide +kernel
theorem dX13_operand_286 : decode cX13_operand 286 = .ok (.invokevirtual 193, 3) := by decide +kernel
theorem dX13_operand_289 : decode cX13_operand 289 = .ok (.ifCond .ne 6, 3) := by decide +kernel
theorem dX13_operand_292 : decode cX13_operand 292 = .ok (.goto 16, 3) := by decide +kernel
theorem dX13_operand_295 : decode cX13_operand 295 = .ok (.aload_n 0, 1) := by decide +kernel
theorem dX13_operand_296 : decode cX13_operand 296 = .ok (.getfield 135, 3) := by decide +kernel
theorem dX13_operand_299 : decode cX13_operand 299 = .ok (.iload_n 3, 1) := by decide +kernel
theorem dX13_operand_300 : decode cX13_operand 300 = .ok (.iload 4, 2) := by decide +kernel
theorem dX13_operand_302 : decode cX13_operand 302 = .ok (.i2l, 1) := by decide +kernel
theorem dX13_operand_303 : decode cX13_operand 303 = .ok (.lastore, 1) := by decide +kernel
theorem dX13_operand_304 : decode cX13_operand 304 = .ok (.iload_n 1, 1) := by decide +kernel
theorem dX13_operand_305 : decode cX13_operand 305 = .ok (.iconst 1, 1) := by decide +kernel
theorem dX13_operand_306 : decode cX13_operand 306 = .ok (.iadd, 1) := by decide +kernel
theorem dX13_operand_307 : decode cX13_operand 307 = .ok (.ireturn, 1) := by decide +kernel
theorem dX13_operand_308 : decode cX13_operand 308 = .ok (.iinc 4 1, 3) := by decide +kernel
theorem dX13_operand_311 : decode cX13_operand 311 = .ok (.goto (-50), 3) := by decide +kernel
theorem dX13_operand_314 : decode cX13_operand 314 = .ok (.iconst (-1), 1) := by decide +kernel
theorem dX13_operand_315 : decode cX13_operand 315 = .ok (.ireturn, 1) := by decide +kernel
theorem dX13_operand_316 : decode cX13_operand 316 = .ok (.aload_n 0, 1) := by decide +kernel
theorem dX13_operand_317 : decode cX13_operand 317 = .ok (.getfield 26, 3) := by decide +kernel
theorem dX13_operand_320 : decode cX13_operand 320 = .ok (.iload_n 1, 1) := by decide +kernel
theorem dX13_operand_321 : decode cX13_operand 321 = .ok (.iaload, 1) := by decide +kernel
theorem dX13_operand_322 : decode cX13_operand 322 = .ok (.iconst 2, 1) := by decide +kernel
theorem dX13_operand_323 : decode cX13_operand 323 = .ok (.if_icmp .ne 19, 3) := by decide +kernel
theorem dX13_operand_326 : decode cX13_operand 326 = .ok (.aload_n 0, 1) := by decide +kernel
theorem dX13_operand_327 : decode cX13_operand 327 = .ok (.getfield 135, 3) := by decide +kernel
theorem dX13_operand_330 : decode cX13_operand 330 = .ok (.iload_n 3, 1) := by decide +kernel
theorem dX13_operand_331 : decode cX13_operand 331 = .ok (.aload_n 0, 1) := by decide +kernel
theorem dX13_operand_332 : decode cX13_operand 332 = .ok (.getfield 36, 3) := by decide +kernel
theorem dX13_operand_335 : decode cX13_operand 335 = .ok (.iload_n 1, 1) := by decide +kernel
theorem dX13_operand_336 : decode cX13_operand 336 = .ok (.laload, 1) := by decide +kernel
theorem dX13_operand_337 : decode cX13_operand 337 = .ok (.lastore, 1) := by decide +kernel
theorem dX13_operand_338 : decode cX13_operand 338 = .ok (.iload_n 1, 1) := by decide +kernel
theorem dX13_operand_339 : decode cX13_operand 339 = .ok (.iconst 1, 1) := by decide +kernel
theorem dX13_operand_340 : decode cX13_operand 340 = .ok (.iadd, 1) := by decide +kernel
theorem dX13_operand_341 : decode cX13_operand 341 = .ok (.ireturn, 1) := by decide +kernel
theorem dX13_operand_342 : decode cX13_operand 342 = .ok (.aload_n 0, 1) := by decide +kernel
theorem dX13_operand_343 : decode cX13_operand 343 = .ok (.iload_n 1, 1) := by decide +kernel
theorem dX13_operand_344 : decode cX13_operand 344 = .ok (.bipush 45, 2) := by decide +kernel
theorem dX13_operand_346 : decode cX13_operand 346 = .ok (.invokevirtual 214, 3) := by decide +kernel
theorem dX13_operand_349 : decode cX13_operand 349 = .ok (.ifCond .eq 34, 3) := by decide +kernel
theorem dX13_operand_352 : decode cX13_operand 352 = .ok (.aload_n 0, 1) := by decide +kernel
theorem dX13_operand_353 : decode cX13_operand 353 = .ok (.getfield 26, 3) := by decide +kernel
theorem dX13_operand_356 : decode cX13_operand 356 = .ok (.iload_n 1, 1) := by decide +kernel
theorem dX13_operand_357 : decode cX13_operand 357 = .ok (.iconst 1, 1) := by decide +kernel
theorem dX13_operand_358 : decode cX13_operand 358 = .ok (.iadd, 1) := by decide +kernel
theorem dX13_operand_359 : decode cX13_operand 359 = .ok (.iaload, 1) := by decide +kernel
theorem dX13_operand_360 : decode cX13_operand 360 = .ok (.iconst 2, 1) := by decide +kernel
theorem dX13_operand_361 : decode cX13_operand 361 = .ok (.if_icmp .ne 22, 3) := by decide +kernel
theorem dX13_operand_364 : decode cX13_operand 364 = .ok (.aload_n 0, 1) := by decide +kernel
theorem dX13_operand_365 : decode cX13_operand 365 = .ok (.getfield 135, 3) := by decide +kernel
theorem dX13_operand_368 : decode cX13_operand 368 = .ok (.iload_n 3, 1) := by decide +kernel
theorem dX13_operand_369 : decode cX13_operand 369 = .ok (.aload_n 0, 1) := by decide +kernel
theorem dX13_operand_370 : decode cX13_operand 370 = .ok (.getfield 36, 3) := by decide +kernel
theorem dX13_operand_373 : decode cX13_operand 373 = .ok (.iload_n 1, 1) := by decide +kernel
theorem dX13_operand_374 : decode cX13_operand 374 = .ok (.iconst 1, 1) := by decide +kernel
theorem dX13_operand_375 : decode cX13_operand 375 = .ok (.iadd, 1) := by decide +kernel
theorem dX13_operand_376 : decode cX13_operand 376 = .ok (.laload, 1) := by decide +kernel
theorem dX13_operand_377 : decode cX13_operand 377 = .ok (.lneg, 1) := by decide +kernel
theorem dX13_operand_378 : decode cX13_operand 378 = .ok (.lastore, 1) := by decide +kernel
theorem dX13_operand_379 : decode cX13_operand 379 = .ok (.iload_n 1, 1) := by decide +kernel
theorem dX13_operand_380 : decode cX13_operand 380 = .ok (.iconst 2, 1) := by decide +kernel
theorem dX13_operand_381 : decode cX13_operand 381 = .ok (.iadd, 1) := by decide +kernel
theorem dX13_operand_382 : decode cX13_operand 382 = .ok (.ireturn, 1) := by decide +kernel
theorem dX13_operand_383 : decode cX13_operand 383 = .ok (.aload_n 0, 1) := by decide +kernel
theorem dX13_operand_384 : decode cX13_operand 384 = .ok (.getfield 26, 3) := by decide +kernel
theorem dX13_operand_387 : decode cX13_operand 387 = .ok (.iload_n 1, 1) := by decide +kernel
theorem dX13_operand_388 : decode cX13_operand 388 = .ok (.iaload, 1) := by decide +kernel
theorem dX13_operand_389 : decode cX13_operand 389 = .ok (.iconst 1, 1) := by decide +kernel
theorem dX13_operand_390 : decode cX13_operand 390 = .ok (.if_icmp .eq 5, 3) := by decide +kernel
theorem dX13_operand_393 : decode cX13_operand 393 = .ok (.iconst (-1), 1) := by decide +kernel
theorem dX13_operand_394 : decode cX13_operand 394 = .ok (.ireturn, 1) := by decide +kernel
theorem dX13_operand_395 : decode cX13_operand 395 = .ok (.aload_n 0, 1) := by decide +kernel
theorem dX13_operand_396 : decode cX13_operand 396 = .ok (.getfield 132, 3) := by decide +kernel
theorem dX13_operand_399 : decode cX13_operand 399 = .ok (.iload_n 3, 1) := by decide +kernel
theorem dX13_operand_400 : decode cX13_operand 400 = .ok (.aload_n 0, 1) := by decide +kernel
theorem dX13_operand_401 : decode cX13_operand 401 = .ok (.iload_n 1, 1) := by decide +kernel
theorem dX13_operand_402 : decode cX13_operand 402 = .ok (.invokevirtual 298, 3) := by decide +kernel
theorem dX13_operand_405 : decode cX13_operand 405 = .ok (.iastore, 1) := by decide +kernel
theorem dX13_operand_406 : decode cX13_operand 406 = .ok (.aload_n 0, 1) := by decide +kernel
theorem dX13_operand_407 : decode cX13_operand 407 = .ok (.getfield 135, 3) := by decide +kernel
theorem dX13_operand_410 : decode cX13_operand 410 = .ok (.iload_n 3, 1) := by decide +kernel
theorem dX13_operand_411 : decode cX13_operand 411 = .ok (.lconst 0, 1) := by decide +kernel
theorem dX13_operand_412 : decode cX13_operand 412 = .ok (.lastore, 1) := by decide +kernel
theorem dX13_operand_413 : decode cX13_operand 413 = .ok (.aload_n 0, 1) := by decide +kernel
theorem dX13_operand_414 : decode cX13_operand 414 = .ok (.getfield 132, 3) := by decide +kernel
theorem dX13_operand_417 : decode cX13_operand 417 = .ok (.iload_n 3, 1) := by decide +kernel
theorem dX13_operand_418 : decode cX13_operand 418 = .ok (.iaload, 1) := by decide +kernel
theorem dX13_operand_419 : decode cX13_operand 419 = .ok (.ifCond .ge 5, 3) := by decide +kernel
theorem dX13_operand_422 : decode cX13_operand 422 = .ok (.iconst (-1), 1) := by decide +kernel
theorem dX13_operand_423 : decode cX13_operand 423 = .ok (.ireturn, 1) := by decide +kernel
theorem dX13_operand_424 : decode cX13_operand 424 = .ok (.aload_n 0, 1) := by decide +kernel
theorem dX13_operand_425 : decode cX13_operand 425 = .ok (.iload_n 1, 1) := by decide +kernel
theorem dX13_operand_426 : decode cX13_operand 426 = .ok (.iconst 1, 1) := by decide +kernel
theorem dX13_operand_427 : decode cX13_operand 427 = .ok (.iadd, 1) := by decide +kernel
theorem dX13_operand_428 : decode cX13_operand 428 = .ok (.bipush 43, 2) := by decide +kernel
theorem dX13_operand_430 : decode cX13_operand 430 = .ok (.invokevirtual 214, 3) := by decide +kernel
theorem dX13_operand_433 : decode cX13_operand 433 = .ok (.ifCond .ne 15, 3) := by decide +kernel
theorem dX13_operand_436 : decode cX13_operand 436 = .ok (.aload_n 0, 1) := by decide +kernel
theorem dX13_operand_437 : decode cX13_operand 437 = .ok (.iload_n 1, 1) := by decide +kernel
theorem dX13_operand_438 : decode cX13_operand 438 = .ok (.iconst 1, 1) := by decide +kernel
theorem dX13_operand_439 : decode cX13_operand 439 = .ok (.iadd, 1) := by decide +kernel
theorem dX13_operand_440 : decode cX13_operand 440 = .ok (.bipush 45, 2) := by decide +kernel
theorem dX13_operand_442 : decode cX13_operand 442 = .ok (.invokevirtual 214, 3) := by decide +kernel
theorem dX13_operand_445 : decode cX13_operand 445 = .ok (.ifCond .eq 57, 3) := by decide +kernel
theorem dX13_operand_448 : decode cX13_operand 448 = .ok (.aload_n 0, 1) := by decide +kernel
theorem dX13_operand_449 : decode cX13_operand 449 = .ok (.getfield 26, 3) := by decide +kernel
theorem dX13_operand_452 : decode cX13_operand 452 = .ok (.iload_n 1, 1) := by decide +kernel
theorem dX13_operand_453 : decode cX13_operand 453 = .ok (.iconst 2, 1) := by decide +kernel
theorem dX13_operand_454 : decode cX13_operand 454 = .ok (.iadd, 1) := by decide +kernel
theorem dX13_operand_455 : decode cX13_operand 455 = .ok (.iaload, 1) := by decide +kernel
theorem dX13_operand_456 : decode cX13_operand 456 = .ok (.iconst 2, 1) := by decide +kernel
theorem dX13_operand_457 : decode cX13_operand 457 = .ok (.if_icmp .ne 45, 3) := by decide +kernel
theorem dX13_operand_460 : decode cX13_operand 460 = .ok (.aload_n 0, 1) := by decide +kernel
theorem dX13_operand_461 : decode cX13_operand 461 = .ok (.getfield 135, 3) := by decide +kernel
theorem dX13_operand_464 : decode cX13_operand 464 = .ok (.iload_n 3, 1) := by decide +kernel
theorem dX13_operand_465 : decode cX13_operand 465 = .ok (.aload_n 0, 1) := by decide +kernel
theorem dX13_operand_466 : decode cX13_operand 466 = .ok (.iload_n 1, 1) := by decide +kernel
theorem dX13_operand_467 : decode cX13_operand 467 = .ok (.iconst 1, 1) := by decide +kernel
theorem dX13_operand_468 : decode cX13_operand 468 = .ok (.iadd, 1) := by decide +kernel
theorem dX13_operand_469 : decode cX13_operand 469 = .ok (.bipush 43, 2) := by decide +kernel
theorem dX13_operand_471 : decode cX13_operand 471 = .ok (.invokevirtual 214, 3) := by decide +kernel
theorem dX13_operand_474 : decode cX13_operand 474 = .ok (.ifCond .eq 14, 3) := by decide +kernel
theorem dX13_operand_477 : decode cX13_operand 477 = .ok (.aload_n 0, 1) := by decide +kernel
theorem dX13_operand_478 : decode cX13_operand 478 = .ok (.getfield 36, 3) := by decide +kernel
theorem dX13_operand_481 : decode cX13_operand 481 = .ok (.iload_n 1, 1) := by decide +kernel
theorem dX13_operand_482 : decode cX13_operand 482 = .ok (.iconst 2, 1) := by decide +kernel
theorem dX13_operand_483 : decode cX13_operand 483 = .ok (.iadd, 1) := by decide +kernel
theorem dX13_operand_484 : decode cX13_operand 484 = .ok (.laload, 1) := by decide +kernel
theorem dX13_operand_485 : decode cX13_operand 485 = .ok (.goto 12, 3) := by decide +kernel
theorem dX13_operand_488 : decode cX13_operand 488 = .ok (.aload_n 0, 1) := by decide +kernel
theorem dX13_operand_489 : decode cX13_operand 489 = .ok (.getfield 36, 3) := by decide +kernel
theorem dX13_operand_492 : decode cX13_operand 492 = .ok (.iload_n 1, 1) := by decide +kernel
theorem dX13_operand_493 : decode cX13_operand 493 = .ok (.iconst 2, 1) := by decide +kernel
theorem dX13_operand_494 : decode cX13_operand 494 = .ok (.iadd, 1) := by decide +kernel
theorem dX13_operand_495 : decode cX13_operand 495 = .ok (.laload, 1) := by decide +kernel
theorem dX13_operand_496 : decode cX13_operand 496 = .ok (.lneg, 1) := by decide +kernel
theorem dX13_operand_497 : decode cX13_operand 497 = .ok (.lastore, 1) := by decide +kernel
theorem dX13_operand_498 : decode cX13_operand 498 = .ok (.iload_n 1, 1) := by decide +kernel
theorem dX13_operand_499 : decode cX13_operand 499 = .ok (.iconst 3, 1) := by decide +kernel
theorem dX13_operand_500 : decode cX13_operand 500 = .ok (.iadd, 1) := by decide +kernel
theorem dX13_operand_501 : decode cX13_operand 501 = .ok (.ireturn, 1) := by decide +kernel
theorem dX13_operand_502 : decode cX13_operand 502 = .ok (.iload_n 1, 1) := by decide +kernel
theorem dX13_operand_503 : decode cX13_operand 503 = .ok (.iconst 1, 1) := by decide +kernel
theorem dX13_operand_504 : decode cX13_operand 504 = .ok (.iadd, 1) := by decide +kernel
theorem dX13_operand_505 : decode cX13_operand 505 = .ok (.ireturn, 1) := by decide +kernel
theorem dX13_isForm_0 : decode cX13_isForm 0 = .ok (.aload_n 0, 1) := by decide +kernel
theorem dX13_isForm_1 : decode cX13_isForm 1 = .ok (.getfield 108, 3) := by decide +kernel
theorem dX13_isForm_4 : decode cX13_isForm 4 = .ok (.iload_n 1, 1) := by decide +kernel
theorem dX13_isForm_5 : decode cX13_isForm 5 = .ok (.iaload, 1) := by decide +kernel
theorem dX13_isForm_6 : decode cX13_isForm 6 = .ok (.istore_n 3, 1) := by decide +kernel
theorem dX13_isForm_7 : decode cX13_isForm 7 = .ok (.aload_n 0, 1) := by decide +kernel
theorem dX13_isForm_8 : decode cX13_isForm 8 = .ok (.aload_n 0, 1) := by decide +kernel
theorem dX13_isForm_9 : decode cX13_isForm 9 = .ok (.getfield 68, 3) := by decide +kernel
theorem dX13_isForm_12 : decode cX13_isForm 12 = .ok (.iload_n 2, 1) := by decide +kernel
theorem dX13_isForm_13 : decode cX13_isForm 13 = .ok (.iaload, 1) := by decide +kernel
theorem dX13_isForm_14 : decode cX13_isForm 14 = .ok (.iload_n 3, 1) := by decide +kernel
theorem dX13_isForm_15 : decode cX13_isForm 15 = .ok (.invokevirtual 193, 3) := by decide +kernel
theorem dX13_isForm_18 : decode cX13_isForm 18 = .ok (.ifCond .ne 5, 3) := by decide +kernel
theorem dX13_isForm_21 : decode cX13_isForm 21 = .ok (.iconst 0, 1) := by decide +kernel
theorem dX13_isForm_22 : decode cX13_isForm 22 = .ok (.ireturn, 1) := by decide +kernel
theorem dX13_isForm_23 : decode cX13_isForm 23 = .ok (.iinc 3 1, 3) := by decide +kernel
theorem dX13_isForm_26 : decode cX13_isForm 26 = .ok (.iconst 0, 1) := by decide +kernel
theorem dX13_isForm_27 : decode cX13_isForm 27 = .ok (.istore 4, 2) := by decide +kernel
theorem dX13_isForm_29 : decode cX13_isForm 29 = .ok (.iload 4, 2) := by decide +kernel
theorem dX13_isForm_31 : decode cX13_isForm 31 = .ok (.aload_n 0, 1) := by decide +kernel
theorem dX13_isForm_32 : decode cX13_isForm 32 = .ok (.getfield 71, 3) := by decide +kernel
theorem dX13_isForm_35 : decode cX13_isForm 35 = .ok (.iload_n 2, 1) := by decide +kernel
theorem dX13_isForm_36 : decode cX13_isForm 36 = .ok (.iaload, 1) := by decide +kernel
theorem dX13_isForm_37 : decode cX13_isForm 37 = .ok (.if_icmp .ge 75, 3) := by decide +kernel
theorem dX13_isForm_40 : decode cX13_isForm 40 = .ok (.aload_n 0, 1) := by decide +kernel
theorem dX13_isForm_41 : decode cX13_isForm 41 = .ok (.getfield 83, 3) := by decide +kernel
theorem dX13_isForm_44 : decode cX13_isForm 44 = .ok (.bipush 12, 2) := by decide +kernel
theorem dX13_isForm_46 : decode cX13_isForm 46 = .ok (.iload_n 2, 1) := by decide +kernel
theorem dX13_isForm_47 : decode cX13_isForm 47 = .ok (.imul, 1) := by decide +kernel
theorem dX13_isForm_48 : decode cX13_isForm 48 = .ok (.iload 4, 2) := by decide +kernel
theorem dX13_isForm_50 : decode cX13_isForm 50 = .ok (.iadd, 1) := by decide +kernel
theorem dX13_isForm_51 : decode cX13_isForm 51 = .ok (.iaload, 1) := by decide +kernel
theorem dX13_isForm_52 : decode cX13_isForm 52 = .ok (.istore 5, 2) := by decide +kernel
theorem dX13_isForm_54 : decode cX13_isForm 54 = .ok (.iload 5, 2) := by decide +kernel
theorem dX13_isForm_56 : decode cX13_isForm 56 = .ok (.ifCond .lt 21, 3) := by decide +kernel
theorem dX13_isForm_59 : decode cX13_isForm 59 = .ok (.aload_n 0, 1) := by decide +kernel
theorem dX13_isForm_60 : decode cX13_isForm 60 = .ok (.iload_n 3, 1) := by decide +kernel
theorem dX13_isForm_61 : decode cX13_isForm 61 = .ok (.iload 5, 2) := by decide +kernel
theorem dX13_isForm_63 : decode cX13_isForm 63 = .ok (.invokevirtual 214, 3) := by decide +kernel
theorem dX13_isForm_66 : decode cX13_isForm 66 = .ok (.ifCond .ne 5, 3) := by decide +kernel
theorem dX13_isForm_69 : decode cX13_isForm 69 = .ok (.iconst 0, 1) := by decide +kernel
theorem dX13_isForm_70 : decode cX13_isForm 70 = .ok (.ireturn, 1) := by decide +kernel
theorem dX13_isForm_71 : decode cX13_isForm 71 = .ok (.iinc 3 1, 3) := by decide +kernel
theorem dX13_isForm_74 : decode cX13_isForm 74 = .ok (.goto 32, 3) := by decide +kernel
theorem dX13_isForm_77 : decode cX13_isForm 77 = .ok (.aload_n 0, 1) := by decide +kernel
theorem dX13_isForm_78 : decode cX13_isForm 78 = .ok (.iload_n 3, 1) := by decide +kernel
theorem dX13_isForm_79 : decode cX13_isForm 79 = .ok (.aload_n 0, 1) := by decide +kernel
theorem dX13_isForm_80 : decode cX13_isForm 80 = .ok (.getfield 89, 3) := by decide +kernel
theorem dX13_isForm_83 : decode cX13_isForm 83 = .ok (.iconst 5, 1) := by decide +kernel
theorem dX13_isForm_84 : decode cX13_isForm 84 = .ok (.iload_n 2, 1) := by decide +kernel
theorem dX13_isForm_85 : decode cX13_isForm 85 = .ok (.imul, 1) := by decide +kernel
theorem dX13_isForm_86 : decode cX13_isForm 86 = .ok (.iconst 1, 1) := by decide +kernel
theorem dX13_isForm_87 : decode cX13_isForm 87 = .ok (.isub, 1) := by decide +kernel
theorem dX13_isForm_88 : decode cX13_isForm 88 = .ok (.iload 5, 2) := by decide +kernel
theorem dX13_isForm_90 : decode cX13_isForm 90 = .ok (.isub, 1) := by decide +kernel
theorem dX13_isForm_91 : decode cX13_isForm 91 = .ok (.iaload, 1) := by decide +kernel
theorem dX13_isForm_92 : decode cX13_isForm 92 = .ok (.iconst (-1), 1) := by decide +kernel
theorem dX13_isForm_93 : decode cX13_isForm 93 = .ok (.iload 5, 2) := by decide +kernel
theorem dX13_isForm_95 : decode cX13_isForm 95 = .ok (.isub, 1) := by decide +kernel
theorem dX13_isForm_96 : decode cX13_isForm 96 = .ok (.invokevirtual 307, 3) := by decide +kernel
theorem dX13_isForm_99 : decode cX13_isForm 99 = .ok (.istore_n 3, 1) := by decide +kernel
theorem dX13_isForm_100 : decode cX13_isForm 100 = .ok (.iload_n 3, 1) := by decide +kernel
theorem dX13_isForm_101 : decode cX13_isForm 101 = .ok (.ifCond .ge 5, 3) := by decide +kernel
theorem dX13_isForm_104 : decode cX13_isForm 104 = .ok (.iconst 0, 1) := by decide +kernel
theorem dX13_isForm_105 : decode cX13_isForm 105 = .ok (.ireturn, 1) := by decide +kernel
theorem dX13_isForm_106 : decode cX13_isForm 106 = .ok (.iinc 4 1, 3) := by decide +kernel
theorem dX13_isForm_109 : decode cX13_isForm 109 = .ok (.goto (-80), 3) := by decide +kernel
theorem dX13_isForm_112 : decode cX13_isForm 112 = .ok (.iload_n 3, 1) := by decide +kernel
theorem dX13_isForm_113 : decode cX13_isForm 113 = .ok (.aload_n 0, 1) := by decide +kernel
theorem dX13_isForm_114 : decode cX13_isForm 114 = .ok (.getfield 123, 3) := by decide +kernel
theorem dX13_isForm_117 : decode cX13_isForm 117 = .ok (.iload_n 1, 1) := by decide +kernel
theorem dX13_isForm_118 : decode cX13_isForm 118 = .ok (.iaload, 1) := by decide +kernel
theorem dX13_isForm_119 : decode cX13_isForm 119 = .ok (.if_icmp .ne 7, 3) := by decide +kernel
theorem dX13_isForm_122 : decode cX13_isForm 122 = .ok (.iconst 1, 1) := by decide +kernel
theorem dX13_isForm_123 : decode cX13_isForm 123 = .ok (.goto 4, 3) := by decide +kernel
theorem dX13_isForm_126 : decode cX13_isForm 126 = .ok (.iconst 0, 1) := by decide +kernel
theorem dX13_isForm_127 : decode cX13_isForm 127 = .ok (.ireturn, 1) := by decide +kernel
theorem dX13_value_0 : decode cX13_value 0 = .ok (.aload_n 0, 1) := by decide +kernel
theorem dX13_value_1 : decode cX13_value 1 = .ok (.getfield 89, 3) := by decide +kernel
theorem dX13_value_4 : decode cX13_value 4 = .ok (.iconst 5, 1) := by decide +kernel
theorem dX13_value_5 : decode cX13_value 5 = .ok (.iload_n 2, 1) := by decide +kernel
theorem dX13_value_6 : decode cX13_value 6 = .ok (.imul, 1) := by decide +kernel
theorem dX13_value_7 : decode cX13_value 7 = .ok (.iload_n 3, 1) := by decide +kernel
theorem dX13_value_8 : decode cX13_value 8 = .ok (.iadd, 1) := by decide +kernel
theorem dX13_value_9 : decode cX13_value 9 = .ok (.iaload, 1) := by decide +kernel
theorem dX13_value_10 : decode cX13_value 10 = .ok (.istore 4, 2) := by decide +kernel
theorem dX13_value_12 : decode cX13_value 12 = .ok (.aload_n 0, 1) := by decide +kernel
theorem dX13_value_13 : decode cX13_value 13 = .ok (.getfield 135, 3) := by decide +kernel
theorem dX13_value_16 : decode cX13_value 16 = .ok (.iload_n 3, 1) := by decide +kernel
theorem dX13_value_17 : decode cX13_value 17 = .ok (.laload, 1) := by decide +kernel
theorem dX13_value_18 : decode cX13_value 18 = .ok (.aload_n 0, 1) := by decide +kernel
theorem dX13_value_19 : decode cX13_value 19 = .ok (.getfield 132, 3) := by decide +kernel
theorem dX13_value_22 : decode cX13_value 22 = .ok (.iload_n 3, 1) := by decide +kernel
theorem dX13_value_23 : decode cX13_value 23 = .ok (.iaload, 1) := by decide +kernel
theorem dX13_value_24 : decode cX13_value 24 = .ok (.ifCond .ge 7, 3) := by decide +kernel
theorem dX13_value_27 : decode cX13_value 27 = .ok (.iconst 0, 1) := by decide +kernel
theorem dX13_value_28 : decode cX13_value 28 = .ok (.goto 19, 3) := by decide +kernel
theorem dX13_value_31 : decode cX13_value 31 = .ok (.aload_n 0, 1) := by decide +kernel
theorem dX13_value_32 : decode cX13_value 32 = .ok (.getfield 117, 3) := by decide +kernel
theorem dX13_value_35 : decode cX13_value 35 = .ok (.aload_n 0, 1) := by decide +kernel
theorem dX13_value_36 : decode cX13_value 36 = .ok (.getfield 129, 3) := by decide +kernel
theorem dX13_value_39 : decode cX13_value 39 = .ok (.aload_n 0, 1) := by decide +kernel
theorem dX13_value_40 : decode cX13_value 40 = .ok (.getfield 132, 3) := by decide +kernel
theorem dX13_value_43 : decode cX13_value 43 = .ok (.iload_n 3, 1) := by decide +kernel
theorem dX13_value_44 : decode cX13_value 44 = .ok (.iaload, 1) := by decide +kernel
theorem dX13_value_45 : decode cX13_value 45 = .ok (.iaload, 1) := by decide +kernel
theorem dX13_value_46 : decode cX13_value 46 = .ok (.iaload, 1) := by decide +kernel
theorem dX13_value_47 : decode cX13_value 47 = .ok (.i2l, 1) := by decide +kernel
theorem dX13_value_48 : decode cX13_value 48 = .ok (.ladd, 1) := by decide +kernel
theorem dX13_value_49 : decode cX13_value 49 = .ok (.lstore 5, 2) := by decide +kernel
theorem dX13_value_51 : decode cX13_value 51 = .ok (.aload_n 0, 1) := by decide +kernel
theorem dX13_value_52 : decode cX13_value 52 = .ok (.getfield 53, 3) := by decide +kernel
theorem dX13_value_55 : decode cX13_value 55 = .ok (.iload 4, 2) := by decide +kernel
theorem dX13_value_57 : decode cX13_value 57 = .ok (.iaload, 1) := by decide +kernel
theorem dX13_value_58 : decode cX13_value 58 = .ok (.iconst 3, 1) := by decide +kernel
theorem dX13_value_59 : decode cX13_value 59 = .ok (.if_icmp .ne 16, 3) := by decide +kernel
theorem dX13_value_62 : decode cX13_value 62 = .ok (.lload 5, 2) := by decide +kernel
theorem dX13_value_64 : decode cX13_value 64 = .ok (.aload_n 0, 1) := by decide +kernel
theorem dX13_value_65 : decode cX13_value 65 = .ok (.getfield 117, 3) := by decide +kernel
theorem dX13_value_68 : decode cX13_value 68 = .ok (.iload_n 1, 1) := by decide +kernel
theorem dX13_value_69 : decode cX13_value 69 = .ok (.iaload, 1) := by decide +kernel
theorem dX13_value_70 : decode cX13_value 70 = .ok (.i2l, 1) := by decide +kernel
theorem dX13_value_71 : decode cX13_value 71 = .ok (.lsub, 1) := by decide +kernel
theorem dX13_value_72 : decode cX13_value 72 = .ok (.goto 5, 3) := by decide +kernel
theorem dX13_value_75 : decode cX13_value 75 = .ok (.lload 5, 2) := by decide +kernel
theorem dX13_value_77 : decode cX13_value 77 = .ok (.lreturn, 1) := by decide +kernel
theorem dX13_isFitting_0 : decode cX13_isFitting 0 = .ok (.iconst 0, 1) := by decide +kernel
theorem dX13_isFitting_1 : decode cX13_isFitting 1 = .ok (.istore_n 3, 1) := by decide +kernel
theorem dX13_isFitting_2 : decode cX13_isFitting 2 = .ok (.iload_n 3, 1) := by decide +kernel
theorem dX13_isFitting_3 : decode cX13_isFitting 3 = .ok (.aload_n 0, 1) := by decide +kernel
theorem dX13_isFitting_4 : decode cX13_isFitting 4 = .ok (.getfield 74, 3) := by decide +kernel
theorem dX13_isFitting_7 : decode cX13_isFitting 7 = .ok (.iload_n 2, 1) := by decide +kernel
theorem dX13_isFitting_8 : decode cX13_isFitting 8 = .ok (.iaload, 1) := by decide +kernel
theorem dX13_isFitting_9 : decode cX13_isFitting 9 = .ok (.if_icmp .ge 118, 3) := by decide +kernel
theorem dX13_isFitting_12 : decode cX13_isFitting 12 = .ok (.aload_n 0, 1) := by decide +kernel
theorem dX13_isFitting_13 : decode cX13_isFitting 13 = .ok (.getfield 89, 3) := by decide +kernel
theorem dX13_isFitting_16 : decode cX13_isFitting 16 = .ok (.iconst 5, 1) := by decide +kernel
theorem dX13_isFitting_17 : decode cX13_isFitting 17 = .ok (.iload_n 2, 1) := by decide +kernel
theorem dX13_isFitting_18 : decode cX13_isFitting 18 = .ok (.imul, 1) := by decide +kernel
theorem dX13_isFitting_19 : decode cX13_isFitting 19 = .ok (.iload_n 3, 1) := by decide +kernel
theorem dX13_isFitting_20 : decode cX13_isFitting 20 = .ok (.iadd, 1) := by decide +kernel
theorem dX13_isFitting_21 : decode cX13_isFitting 21 = .ok (.iaload, 1) := by decide +kernel
theorem dX13_isFitting_22 : decode cX13_isFitting 22 = .ok (.istore 4, 2) := by decide +kernel
theorem dX13_isFitting_24 : decode cX13_isFitting 24 = .ok (.aload_n 0, 1) := by decide +kernel
theorem dX13_isFitting_25 : decode cX13_isFitting 25 = .ok (.getfield 62, 3) := by decide +kernel
theorem dX13_isFitting_28 : decode cX13_isFitting 28 = .ok (.iload 4, 2) := by decide +kernel
theorem dX13_isFitting_30 : decode cX13_isFitting 30 = .ok (.iaload, 1) := by decide +kernel
theorem dX13_isFitting_31 : decode cX13_isFitting 31 = .ok (.istore 5, 2) := by decide +kernel
theorem dX13_isFitting_33 : decode cX13_isFitting 33 = .ok (.aload_n 0, 1) := by decide +kernel
theorem dX13_isFitting_34 : decode cX13_isFitting 34 = .ok (.iload_n 1, 1) := by decide +kernel
theorem dX13_isFitting_35 : decode cX13_isFitting 35 = .ok (.iload_n 2, 1) := by decide +kernel
theorem dX13_isFitting_36 : decode cX13_isFitting 36 = .ok (.iload_n 3, 1) := by decide +kernel
theorem dX13_isFitting_37 : decode cX13_isFitting 37 = .ok (.invokevirtual 311, 3) := by decide +kernel
theorem dX13_isFitting_40 : decode cX13_isFitting 40 = .ok (.lstore 6, 2) := by decide +kernel
theorem dX13_isFitting_42 : decode cX13_isFitting 42 = .ok (.aload_n 0, 1) := by decide +kernel
theorem dX13_isFitting_43 : decode cX13_isFitting 43 = .ok (.getfield 53, 3) := by decide +kernel
theorem dX13_isFitting_46 : decode cX13_isFitting 46 = .ok (.iload 4, 2) := by decide +kernel
theorem dX13_isFitting_48 : decode cX13_isFitting 48 = .ok (.iaload, 1) := by decide +kernel
theorem dX13_isFitting_49 : decode cX13_isFitting 49 = .ok (.iconst 1, 1) := by decide +kernel
theorem dX13_isFitting_50 : decode cX13_isFitting 50 = .ok (.if_icmp .ne 22, 3) := by decide +kernel
theorem dX13_isFitting_53 : decode cX13_isFitting 53 = .ok (.lload 6, 2) := by decide +kernel
theorem dX13_isFitting_55 : decode cX13_isFitting 55 = .ok (.lconst 0, 1) := by decide +kernel
theorem dX13_isFitting_56 : decode cX13_isFitting 56 = .ok (.lcmp, 1) := by decide +kernel
theorem dX13_isFitting_57 : decode cX13_isFitting 57 = .ok (.ifCond .lt 13, 3) := by decide +kernel
theorem dX13_isFitting_60 : decode cX13_isFitting 60 = .ok (.lload 6, 2) := by decide +kernel
theorem dX13_isFitting_62 : decode cX13_isFitting 62 = .ok (.lconst 1, 1) := by decide +kernel
theorem dX13_isFitting_63 : decode cX13_isFitting 63 = .ok (.iload 5, 2) := by decide +kernel
theorem dX13_isFitting_65 : decode cX13_isFitting 65 = .ok (.lshl, 1) := by decide +kernel
theorem dX13_isFitting_66 : decode cX13_isFitting 66 = .ok (.lcmp, 1) := by decide +kernel
theorem dX13_isFitting_67 : decode cX13_isFitting 67 = .ok (.ifCond .lt 5, 3) := by decide +kernel
theorem dX13_isFitting_70 : decode cX13_isFitting 70 = .ok (.iconst 0, 1) := by decide +kernel
theorem dX13_isFitting_71 : decode cX13_isFitting 71 = .ok (.ireturn, 1) := by decide +kernel
theorem dX13_isFitting_72 : decode cX13_isFitting 72 = .ok (.aload_n 0, 1) := by decide +kernel
theorem dX13_isFitting_73 : decode cX13_isFitting 73 = .ok (.getfield 53, 3) := by decide +kernel
theorem dX13_isFitting_76 : decode cX13_isFitting 76 = .ok (.iload 4, 2) := by decide +kernel
theorem dX13_isFitting_78 : decode cX13_isFitting 78 = .ok (.iaload, 1) := by decide +kernel
theorem dX13_isFitting_79 : decode cX13_isFitting 79 = .ok (.iconst 2, 1) := by decide +kernel
theorem dX13_isFitting_80 : decode cX13_isFitting 80 = .ok (.if_icmp .eq 14, 3) := by decide +kernel
theorem dX13_isFitting_83 : decode cX13_isFitting 83 = .ok (.aload_n 0, 1) := by decide +kernel
theorem dX13_isFitting_84 : decode cX13_isFitting 84 = .ok (.getfield 53, 3) := by decide +kernel
theorem dX13_isFitting_87 : decode cX13_isFitting 87 = .ok (.iload 4, 2) := by decide +kernel
theorem dX13_isFitting_89 : decode cX13_isFitting 89 = .ok (.iaload, 1) := by decide +kernel
theorem dX13_isFitting_90 : decode cX13_isFitting 90 = .ok (.iconst 3, 1) := by decide +kernel
theorem dX13_isFitting_91 : decode cX13_isFitting 91 = .ok (.if_icmp .ne 30, 3) := by decide +kernel
theorem dX13_isFitting_94 : decode cX13_isFitting 94 = .ok (.lload 6, 2) := by decide +kernel
theorem dX13_isFitting_96 : decode cX13_isFitting 96 = .ok (.lconst 1, 1) := by decide +kernel
theorem dX13_isFitting_97 : decode cX13_isFitting 97 = .ok (.iload 5, 2) := by decide +kernel
theorem dX13_isFitting_99 : decode cX13_isFitting 99 = .ok (.iconst 1, 1) := by decide +kernel
theorem dX13_isFitting_100 : decode cX13_isFitting 100 = .ok (.isub, 1) := by decide +kernel
theorem dX13_isFitting_101 : decode cX13_isFitting 101 = .ok (.lshl, 1) := by decide +kernel
theorem dX13_isFitting_102 : decode cX13_isFitting 102 = .ok (.lneg, 1) := by decide +kernel
theorem dX13_isFitting_103 : decode cX13_isFitting 103 = .ok (.lcmp, 1) := by decide +kernel
theorem dX13_isFitting_104 : decode cX13_isFitting 104 = .ok (.ifCond .lt 15, 3) := by decide +kernel
theorem dX13_isFitting_107 : decode cX13_isFitting 107 = .ok (.lload 6, 2) := by decide +kernel
theorem dX13_isFitting_109 : decode cX13_isFitting 109 = .ok (.lconst 1, 1) := by decide +kernel
theorem dX13_isFitting_110 : decode cX13_isFitting 110 = .ok (.iload 5, 2) := by decide +kernel
theorem dX13_isFitting_112 : decode cX13_isFitting 112 = .ok (.iconst 1, 1) := by decide +kernel
theorem dX13_isFitting_113 : decode cX13_isFitting 113 = .ok (.isub, 1) := by decide +kernel
theorem dX13_isFitting_114 : decode cX13_isFitting 114 = .ok (.lshl, 1) := by decide +kernel
theorem dX13_isFitting_115 : decode cX13_isFitting 115 = .ok (.lcmp, 1) := by decide +kernel
theorem dX13_isFitting_116 : decode cX13_isFitting 116 = .ok (.ifCond .lt 5, 3) := by decide +kernel
theorem dX13_isFitting_119 : decode cX13_isFitting 119 = .ok (.iconst 0, 1) := by decide +kernel
theorem dX13_isFitting_120 : decode cX13_isFitting 120 = .ok (.ireturn, 1) := by decide +kernel
theorem dX13_isFitting_121 : decode cX13_isFitting 121 = .ok (.iinc 3 1, 3) := by decide +kernel
theorem dX13_isFitting_124 : decode cX13_isFitting 124 = .ok (.goto (-122), 3) := by decide +kernel
theorem dX13_isFitting_127 : decode cX13_isFitting 127 = .ok (.iconst 1, 1) := by decide +kernel
theorem dX13_isFitting_128 : decode cX13_isFitting 128 = .ok (.ireturn, 1) := by decide +kernel
theorem dX13_nextForm_0 : decode cX13_nextForm 0 = .ok (.iload_n 2, 1) := by decide +kernel
theorem dX13_nextForm_1 : decode cX13_nextForm 1 = .ok (.istore_n 3, 1) := by decide +kernel
theorem dX13_nextForm_2 : decode cX13_nextForm 2 = .ok (.iload_n 3, 1) := by decide +kernel
theorem dX13_nextForm_3 : decode cX13_nextForm 3 = .ok (.aload_n 0, 1) := by decide +kernel
theorem dX13_nextForm_4 : decode cX13_nextForm 4 = .ok (.getfield 223, 3) := by decide +kernel
theorem dX13_nextForm_7 : decode cX13_nextForm 7 = .ok (.if_icmp .ge 20, 3) := by decide +kernel
theorem dX13_nextForm_10 : decode cX13_nextForm 10 = .ok (.aload_n 0, 1) := by decide +kernel
theorem dX13_nextForm_11 : decode cX13_nextForm 11 = .ok (.iload_n 1, 1) := by decide +kernel
theorem dX13_nextForm_12 : decode cX13_nextForm 12 = .ok (.iload_n 3, 1) := by decide +kernel
theorem dX13_nextForm_13 : decode cX13_nextForm 13 = .ok (.invokevirtual 315, 3) := by decide +kernel
theorem dX13_nextForm_16 : decode cX13_nextForm 16 = .ok (.ifCond .eq 5, 3) := by decide +kernel
theorem dX13_nextForm_19 : decode cX13_nextForm 19 = .ok (.iload_n 3, 1) := by decide +kernel
theorem dX13_nextForm_20 : decode cX13_nextForm 20 = .ok (.ireturn, 1) := by decide +kernel
theorem dX13_nextForm_21 : decode cX13_nextForm 21 = .ok (.iinc 3 1, 3) := by decide +kernel
theorem dX13_nextForm_24 : decode cX13_nextForm 24 = .ok (.goto (-22), 3) := by decide +kernel
theorem dX13_nextForm_27 : decode cX13_nextForm 27 = .ok (.iconst (-1), 1) := by decide +kernel
theorem dX13_nextForm_28 : decode cX13_nextForm 28 = .ok (.ireturn, 1) := by decide +kernel
theorem dX13_addresses_0 : decode cX13_addresses 0 = .ok (.iconst 0, 1) := by decide +kernel
theorem dX13_addresses_1 : decode cX13_addresses 1 = .ok (.istore_n 1, 1) := by decide +kernel
theorem dX13_addresses_2 : decode cX13_addresses 2 = .ok (.iconst 0, 1) := by decide +kernel
theorem dX13_addresses_3 : decode cX13_addresses 3 = .ok (.istore_n 2, 1) := by decide +kernel
theorem dX13_addresses_4 : decode cX13_addresses 4 = .ok (.iload_n 2, 1) := by decide +kernel
theorem dX13_addresses_5 : decode cX13_addresses 5 = .ok (.aload_n 0, 1) := by decide +kernel
theorem dX13_addresses_6 : decode cX13_addresses 6 = .ok (.getfield 295, 3) := by decide +kernel
theorem dX13_addresses_9 : decode cX13_addresses 9 = .ok (.if_icmp .ge 103, 3) := by decide +kernel
theorem dX13_addresses_12 : decode cX13_addresses 12 = .ok (.aload_n 0, 1) := by decide +kernel
theorem dX13_addresses_13 : decode cX13_addresses 13 = .ok (.getfield 117, 3) := by decide +kernel
theorem dX13_addresses_16 : decode cX13_addresses 16 = .ok (.iload_n 2, 1) := by decide +kernel
theorem dX13_addresses_17 : decode cX13_addresses 17 = .ok (.iload_n 1, 1) := by decide +kernel
theorem dX13_addresses_18 : decode cX13_addresses 18 = .ok (.iastore, 1) := by decide +kernel
theorem dX13_addresses_19 : decode cX13_addresses 19 = .ok (.aload_n 0, 1) := by decide +kernel
theorem dX13_addresses_20 : decode cX13_addresses 20 = .ok (.getfield 111, 3) := by decide +kernel
theorem dX13_addresses_23 : decode cX13_addresses 23 = .ok (.iload_n 2, 1) := by decide +kernel
theorem dX13_addresses_24 : decode cX13_addresses 24 = .ok (.iaload, 1) := by decide +kernel
theorem dX13_addresses_25 : decode cX13_addresses 25 = .ok (.iconst 3, 1) := by decide +kernel
theorem dX13_addresses_26 : decode cX13_addresses 26 = .ok (.if_icmp .ne 21, 3) := by decide +kernel
theorem dX13_addresses_29 : decode cX13_addresses 29 = .ok (.aload_n 0, 1) := by decide +kernel
theorem dX13_addresses_30 : decode cX13_addresses 30 = .ok (.getfield 36, 3) := by decide +kernel
theorem dX13_addresses_33 : decode cX13_addresses 33 = .ok (.aload_n 0, 1) := by decide +kernel
theorem dX13_addresses_34 : decode cX13_addresses 34 = .ok (.getfield 108, 3) := by decide +kernel
theorem dX13_addresses_37 : decode cX13_addresses 37 = .ok (.iload_n 2, 1) := by decide +kernel
theorem dX13_addresses_38 : decode cX13_addresses 38 = .ok (.iaload, 1) := by decide +kernel
theorem dX13_addresses_39 : decode cX13_addresses 39 = .ok (.iconst 2, 1) := by decide +kernel
theorem dX13_addresses_40 : decode cX13_addresses 40 = .ok (.iadd, 1) := by decide +kernel
theorem dX13_addresses_41 : decode cX13_addresses 41 = .ok (.laload, 1) := by decide +kernel
theorem dX13_addresses_42 : decode cX13_addresses 42 = .ok (.l2i, 1) := by decide +kernel
theorem dX13_addresses_43 : decode cX13_addresses 43 = .ok (.istore_n 1, 1) := by decide +kernel
theorem dX13_addresses_44 : decode cX13_addresses 44 = .ok (.goto 62, 3) := by decide +kernel
theorem dX13_addresses_47 : decode cX13_addresses 47 = .ok (.aload_n 0, 1) := by decide +kernel
theorem dX13_addresses_48 : decode cX13_addresses 48 = .ok (.getfield 111, 3) := by decide +kernel
theorem dX13_addresses_51 : decode cX13_addresses 51 = .ok (.iload_n 2, 1) := by decide +kernel
theorem dX13_addresses_52 : decode cX13_addresses 52 = .ok (.iaload, 1) := by decide +kernel
theorem dX13_addresses_53 : decode cX13_addresses 53 = .ok (.iconst 1, 1) := by decide +kernel
theorem dX13_addresses_54 : decode cX13_addresses 54 = .ok (.if_icmp .ne 17, 3) := by decide +kernel
theorem dX13_addresses_57 : decode cX13_addresses 57 = .ok (.aload_n 0, 1) := by decide +kernel
theorem dX13_addresses_58 : decode cX13_addresses 58 = .ok (.getfield 77, 3) := by decide +kernel
theorem dX13_addresses_61 : decode cX13_addresses 61 = .ok (.aload_n 0, 1) := by decide +kernel
theorem dX13_addresses_62 : decode cX13_addresses 62 = .ok (.getfield 114, 3) := by decide +kernel
theorem dX13_addresses_65 : decode cX13_addresses 65 = .ok (.iload_n 2, 1) := by decide +kernel
theorem dX13_addresses_66 : decode cX13_addresses 66 = .ok (.iaload, 1) := by decide +kernel
theorem dX13_addresses_67 : decode cX13_addresses 67 = .ok (.iaload, 1) := by decide +kernel
theorem dX13_addresses_68 : decode cX13_addresses 68 = .ok (.goto 9, 3) := by decide +kernel
theorem dX13_addresses_71 : decode cX13_addresses 71 = .ok (.aload_n 0, 1) := by decide +kernel
theorem dX13_addresses_72 : decode cX13_addresses 72 = .ok (.getfield 120, 3) := by decide +kernel
theorem dX13_addresses_75 : decode cX13_addresses 75 = .ok (.iload_n 2, 1) := by decide +kernel
theorem dX13_addresses_76 : decode cX13_addresses 76 = .ok (.iaload, 1) := by decide +kernel
theorem dX13_addresses_77 : decode cX13_addresses 77 = .ok (.istore_n 3, 1) := by decide +kernel
theorem dX13_addresses_78 : decode cX13_addresses 78 = .ok (.iload_n 1, 1) := by decide +kernel
theorem dX13_addresses_79 : decode cX13_addresses 79 = .ok (.iload_n 3, 1) := by decide +kernel
theorem dX13_addresses_80 : decode cX13_addresses 80 = .ok (.iadd, 1) := by decide +kernel
theorem dX13_addresses_81 : decode cX13_addresses 81 = .ok (.sipush 4096, 3) := by decide +kernel
theorem dX13_addresses_84 : decode cX13_addresses 84 = .ok (.if_icmp .le 18, 3) := by decide +kernel
theorem dX13_addresses_87 : decode cX13_addresses 87 = .ok (.new 209, 3) := by decide +kernel
theorem dX13_addresses_90 : decode cX13_addresses 90 = .ok (.dup, 1) := by decide +kernel
theorem dX13_addresses_91 : decode cX13_addresses 91 = .ok (.iconst 3, 1) := by decide +kernel
theorem dX13_addresses_92 : decode cX13_addresses 92 = .ok (.aload_n 0, 1) := by decide +kernel
theorem dX13_addresses_93 : decode cX13_addresses 93 = .ok (.getfield 108, 3) := by decide +kernel
theorem dX13_addresses_96 : decode cX13_addresses 96 = .ok (.iload_n 2, 1) := by decide +kernel
theorem dX13_addresses_97 : decode cX13_addresses 97 = .ok (.iaload, 1) := by decide +kernel
theorem dX13_addresses_98 : decode cX13_addresses 98 = .ok (.invokespecial 211, 3) := by decide +kernel
theorem dX13_addresses_101 : decode cX13_addresses 101 = .ok (.athrow, 1) := by decide +kernel
theorem dX13_addresses_102 : decode cX13_addresses 102 = .ok (.iload_n 1, 1) := by decide +kernel
theorem dX13_addresses_103 : decode cX13_addresses 103 = .ok (.iload_n 3, 1) := by decide +kernel
theorem dX13_addresses_104 : decode cX13_addresses 104 = .ok (.iadd, 1) := by decide +kernel
theorem dX13_addresses_105 : decode cX13_addresses 105 = .ok (.istore_n 1, 1) := by decide +kernel
theorem dX13_addresses_106 : decode cX13_addresses 106 = .ok (.iinc 2 1, 3) := by decide +kernel
theorem dX13_addresses_109 : decode cX13_addresses 109 = .ok (.goto (-105), 3) := by decide +kernel
theorem dX13_addresses_112 : decode cX13_addresses 112 = .ok (.return_, 1) := by decide +kernel
theorem dX13_put_0 : decode cX13_put 0 = .ok (.aload_n 0, 1) := by decide +kernel
theorem dX13_put_1 : decode cX13_put 1 = .ok (.getfield 101, 3) := by decide +kernel
theorem dX13_put_4 : decode cX13_put 4 = .ok (.iload_n 2, 1) := by decide +kernel
theorem dX13_put_5 : decode cX13_put 5 = .ok (.baload, 1) := by decide +kernel
theorem dX13_put_6 : decode cX13_put 6 = .ok (.ifCond .eq 19, 3) := by decide +kernel
theorem dX13_put_9 : decode cX13_put 9 = .ok (.new 209, 3) := by decide +kernel
theorem dX13_put_12 : decode cX13_put 12 = .ok (.dup, 1) := by decide +kernel
theorem dX13_put_13 : decode cX13_put 13 = .ok (.bipush 8, 2) := by decide +kernel
theorem dX13_put_15 : decode cX13_put 15 = .ok (.aload_n 0, 1) := by decide +kernel
theorem dX13_put_16 : decode cX13_put 16 = .ok (.getfield 105, 3) := by decide +kernel
theorem dX13_put_19 : decode cX13_put 19 = .ok (.iload_n 1, 1) := by decide +kernel
theorem dX13_put_20 : decode cX13_put 20 = .ok (.iaload, 1) := by decide +kernel
theorem dX13_put_21 : decode cX13_put 21 = .ok (.invokespecial 211, 3) := by decide +kernel
theorem dX13_put_24 : decode cX13_put 24 = .ok (.athrow, 1) := by decide +kernel
theorem dX13_put_25 : decode cX13_put 25 = .ok (.aload_n 0, 1) := by decide +kernel
theorem dX13_put_26 : decode cX13_put 26 = .ok (.getfield 101, 3) := by decide +kernel
theorem dX13_put_29 : decode cX13_put 29 = .ok (.iload_n 2, 1) := by decide +kernel
theorem dX13_put_30 : decode cX13_put 30 = .ok (.iconst 1, 1) := by decide +kernel
theorem dX13_put_31 : decode cX13_put 31 = .ok (.bastore, 1) := by decide +kernel
theorem dX13_put_32 : decode cX13_put 32 = .ok (.aload_n 0, 1) := by decide +kernel
theorem dX13_put_33 : decode cX13_put 33 = .ok (.getfield 98, 3) := by decide +kernel
theorem dX13_put_36 : decode cX13_put 36 = .ok (.iload_n 2, 1) := by decide +kernel
theorem dX13_put_37 : decode cX13_put 37 = .ok (.lload_n 3, 1) := by decide +kernel
theorem dX13_put_38 : decode cX13_put 38 = .ok (.lastore, 1) := by decide +kernel
theorem dX13_put_39 : decode cX13_put 39 = .ok (.aload_n 0, 1) := by decide +kernel
theorem dX13_put_40 : decode cX13_put 40 = .ok (.dup, 1) := by decide +kernel
theorem dX13_put_41 : decode cX13_put 41 = .ok (.getfield 283, 3) := by decide +kernel
theorem dX13_put_44 : decode cX13_put 44 = .ok (.iconst 1, 1) := by decide +kernel
theorem dX13_put_45 : decode cX13_put 45 = .ok (.iadd, 1) := by decide +kernel
theorem dX13_put_46 : decode cX13_put 46 = .ok (.putfield 283, 3) := by decide +kernel
theorem dX13_put_49 : decode cX13_put 49 = .ok (.return_, 1) := by decide +kernel
