theorem dX10_hasOnlyBits_0 : decode cX10_hasOnlyBits 0 = .ok (.aload_n 0, 1) := by decide +kernel
theorem dX10_hasOnlyBits_1 : decode cX10_hasOnlyBits 1 = .ok (.getfield 18, 3) := by decide +kernel
theorem dX10_hasOnlyBits_4 : decode cX10_hasOnlyBits 4 = .ok (.iload_n 1, 1) := by decide +kernel
theorem dX10_hasOnlyBits_5 : decode cX10_hasOnlyBits 5 = .ok (.iaload, 1) := by decide +kernel
theorem dX10_hasOnlyBits_6 : decode cX10_hasOnlyBits 6 = .ok (.istore_n 2, 1) := by decide +kernel
theorem dX10_hasOnlyBits_7 : decode cX10_hasOnlyBits 7 = .ok (.iload_n 2, 1) := by decide +kernel
theorem dX10_hasOnlyBits_8 : decode cX10_hasOnlyBits 8 = .ok (.aload_n 0, 1) := by decide +kernel
theorem dX10_hasOnlyBits_9 : decode cX10_hasOnlyBits 9 = .ok (.getfield 22, 3) := by decide +kernel
theorem dX10_hasOnlyBits_12 : decode cX10_hasOnlyBits 12 = .ok (.iload_n 1, 1) := by decide +kernel
theorem dX10_hasOnlyBits_13 : decode cX10_hasOnlyBits 13 = .ok (.iaload, 1) := by decide +kernel
theorem dX10_hasOnlyBits_14 : decode cX10_hasOnlyBits 14 = .ok (.if_icmp .ge 33, 3) := by decide +kernel
theorem dX10_hasOnlyBits_17 : decode cX10_hasOnlyBits 17 = .ok (.aload_n 0, 1) := by decide +kernel
theorem dX10_hasOnlyBits_18 : decode cX10_hasOnlyBits 18 = .ok (.getfield 9, 3) := by decide +kernel
theorem dX10_hasOnlyBits_21 : decode cX10_hasOnlyBits 21 = .ok (.iload_n 2, 1) := by decide +kernel
theorem dX10_hasOnlyBits_22 : decode cX10_hasOnlyBits 22 = .ok (.baload, 1) := by decide +kernel
theorem dX10_hasOnlyBits_23 : decode cX10_hasOnlyBits 23 = .ok (.bipush 48, 2) := by decide +kernel
theorem dX10_hasOnlyBits_25 : decode cX10_hasOnlyBits 25 = .ok (.if_icmp .eq 16, 3) := by decide +kernel
theorem dX10_hasOnlyBits_28 : decode cX10_hasOnlyBits 28 = .ok (.aload_n 0, 1) := by decide +kernel
theorem dX10_hasOnlyBits_29 : decode cX10_hasOnlyBits 29 = .ok (.getfield 9, 3) := by decide +kernel
theorem dX10_hasOnlyBits_32 : decode cX10_hasOnlyBits 32 = .ok (.iload_n 2, 1) := by decide +kernel
theorem dX10_hasOnlyBits_33 : decode cX10_hasOnlyBits 33 = .ok (.baload, 1) := by decide +kernel
theorem dX10_hasOnlyBits_34 : decode cX10_hasOnlyBits 34 = .ok (.bipush 49, 2) := by decide +kernel
theorem dX10_hasOnlyBits_36 : decode cX10_hasOnlyBits 36 = .ok (.if_icmp .eq 5, 3) := by decide +kernel
theorem dX10_hasOnlyBits_39 : decode cX10_hasOnlyBits 39 = .ok (.iconst 0, 1) := by decide +kernel
theorem dX10_hasOnlyBits_40 : decode cX10_hasOnlyBits 40 = .ok (.ireturn, 1) := by decide +kernel
theorem dX10_hasOnlyBits_41 : decode cX10_hasOnlyBits 41 = .ok (.iinc 2 1, 3) := by decide +kernel
theorem dX10_hasOnlyBits_44 : decode cX10_hasOnlyBits 44 = .ok (.goto (-37), 3) := by decide +kernel
theorem dX10_hasOnlyBits_47 : decode cX10_hasOnlyBits 47 = .ok (.iconst 1, 1) := by decide +kernel
theorem dX10_hasOnlyBits_48 : decode cX10_hasOnlyBits 48 = .ok (.ireturn, 1) := by decide +kernel
theorem dX0_readDigits_0 : decode cX0_readDigits 0 = .ok (.aload_n 0, 1) := by decide +kernel
theorem dX0_readDigits_1 : decode cX0_readDigits 1 = .ok (.getfield 25, 3) := by decide +kernel
theorem dX0_readDigits_4 : decode cX0_readDigits 4 = .ok (.aload_n 0, 1) := by decide +kernel
theorem dX0_readDigits_5 : decode cX0_readDigits 5 = .ok (.getfield 15, 3) := by decide +kernel
theorem dX0_readDigits_8 : decode cX0_readDigits 8 = .ok (.getfield 58, 3) := by decide +kernel
theorem dX0_readDigits_11 : decode cX0_readDigits 11 = .ok (.invokevirtual 273, 3) := by decide +kernel
theorem dX0_readDigits_14 : decode cX0_readDigits 14 = .ok (.ifCond .ne 13, 3) := by decide +kernel
theorem dX0_readDigits_17 : decode cX0_readDigits 17 = .ok (.aload_n 0, 1) := by decide +kernel
theorem dX0_readDigits_18 : decode cX0_readDigits 18 = .ok (.getfield 15, 3) := by decide +kernel
theorem dX0_readDigits_21 : decode cX0_readDigits 21 = .ok (.iconst 3, 1) := by decide +kernel
theorem dX0_readDigits_22 : decode cX0_readDigits 22 = .ok (.invokevirtual 67, 3) := by decide +kernel
theorem dX0_readDigits_25 : decode cX0_readDigits 25 = .ok (.pop, 1) := by decide +kernel
theorem dX0_readDigits_26 : decode cX0_readDigits 26 = .ok (.return_, 1) := by decide +kernel
theorem dX0_readDigits_27 : decode cX0_readDigits 27 = .ok (.aload_n 0, 1) := by decide +kernel
theorem dX0_readDigits_28 : decode cX0_readDigits 28 = .ok (.getfield 25, 3) := by decide +kernel
theorem dX0_readDigits_31 : decode cX0_readDigits 31 = .ok (.getfield 276, 3) := by decide +kernel
theorem dX0_readDigits_34 : decode cX0_readDigits 34 = .ok (.aload_n 0, 1) := by decide +kernel
theorem dX0_readDigits_35 : decode cX0_readDigits 35 = .ok (.getfield 15, 3) := by decide +kernel
theorem dX0_readDigits_38 : decode cX0_readDigits 38 = .ok (.getfield 58, 3) := by decide +kernel
theorem dX0_readDigits_41 : decode cX0_readDigits 41 = .ok (.iaload, 1) := by decide +kernel
theorem dX0_readDigits_42 : decode cX0_readDigits 42 = .ok (.istore_n 1, 1) := by decide +kernel
theorem dX0_readDigits_43 : decode cX0_readDigits 43 = .ok (.iload_n 1, 1) := by decide +kernel
theorem dX0_readDigits_44 : decode cX0_readDigits 44 = .ok (.aload_n 0, 1) := by decide +kernel
theorem dX0_readDigits_45 : decode cX0_readDigits 45 = .ok (.getfield 25, 3) := by decide +kernel
theorem dX0_readDigits_48 : decode cX0_readDigits 48 = .ok (.getfield 280, 3) := by decide +kernel
theorem dX0_readDigits_51 : decode cX0_readDigits 51 = .ok (.aload_n 0, 1) := by decide +kernel
theorem dX0_readDigits_52 : decode cX0_readDigits 52 = .ok (.getfield 15, 3) := by decide +kernel
theorem dX0_readDigits_55 : decode cX0_readDigits 55 = .ok (.getfield 58, 3) := by decide +kernel
theorem dX0_readDigits_58 : decode cX0_readDigits 58 = .ok (.iaload, 1) := by decide +kernel
theorem dX0_readDigits_59 : decode cX0_readDigits 59 = .ok (.if_icmp .ge 66, 3) := by decide +kernel
theorem dX0_readDigits_62 : decode cX0_readDigits 62 = .ok (.aload_n 0, 1) := by decide +kernel
theorem dX0_readDigits_63 : decode cX0_readDigits 63 = .ok (.getfield 241, 3) := by decide +kernel
theorem dX0_readDigits_66 : decode cX0_readDigits 66 = .ok (.aload_n 0, 1) := by decide +kernel
theorem dX0_readDigits_67 : decode cX0_readDigits 67 = .ok (.getfield 26, 3) := by decide +kernel
theorem dX0_readDigits_70 : decode cX0_readDigits 70 = .ok (.getfield 91, 3) := by decide +kernel
theorem dX0_readDigits_73 : decode cX0_readDigits 73 = .ok (.if_icmp .ge 36, 3) := by decide +kernel
theorem dX0_readDigits_76 : decode cX0_readDigits 76 = .ok (.aload_n 0, 1) := by decide +kernel
theorem dX0_readDigits_77 : decode cX0_readDigits 77 = .ok (.getfield 186, 3) := by decide +kernel
theorem dX0_readDigits_80 : decode cX0_readDigits 80 = .ok (.aload_n 0, 1) := by decide +kernel
theorem dX0_readDigits_81 : decode cX0_readDigits 81 = .ok (.getfield 26, 3) := by decide +kernel
theorem dX0_readDigits_84 : decode cX0_readDigits 84 = .ok (.getfield 91, 3) := by decide +kernel
theorem dX0_readDigits_87 : decode cX0_readDigits 87 = .ok (.iconst 1, 1) := by decide +kernel
theorem dX0_readDigits_88 : decode cX0_readDigits 88 = .ok (.isub, 1) := by decide +kernel
theorem dX0_readDigits_89 : decode cX0_readDigits 89 = .ok (.aload_n 0, 1) := by decide +kernel
theorem dX0_readDigits_90 : decode cX0_readDigits 90 = .ok (.getfield 241, 3) := by decide +kernel
theorem dX0_readDigits_93 : decode cX0_readDigits 93 = .ok (.isub, 1) := by decide +kernel
theorem dX0_readDigits_94 : decode cX0_readDigits 94 = .ok (.aload_n 0, 1) := by decide +kernel
theorem dX0_readDigits_95 : decode cX0_readDigits 95 = .ok (.getfield 25, 3) := by decide +kernel
theorem dX0_readDigits_98 : decode cX0_readDigits 98 = .ok (.getfield 283, 3) := by decide +kernel
theorem dX0_readDigits_101 : decode cX0_readDigits 101 = .ok (.iload_n 1, 1) := by decide +kernel
theorem dX0_readDigits_102 : decode cX0_readDigits 102 = .ok (.baload, 1) := by decide +kernel
theorem dX0_readDigits_103 : decode cX0_readDigits 103 = .ok (.bipush 48, 2) := by decide +kernel
theorem dX0_readDigits_105 : decode cX0_readDigits 105 = .ok (.isub, 1) := by decide +kernel
theorem dX0_readDigits_106 : decode cX0_readDigits 106 = .ok (.invokevirtual 286, 3) := by decide +kernel
theorem dX0_readDigits_109 : decode cX0_readDigits 109 = .ok (.aload_n 0, 1) := by decide +kernel
theorem dX0_readDigits_110 : decode cX0_readDigits 110 = .ok (.dup, 1) := by decide +kernel
theorem dX0_readDigits_111 : decode cX0_readDigits 111 = .ok (.getfield 241, 3) := by decide +kernel
theorem dX0_readDigits_114 : decode cX0_readDigits 114 = .ok (.iconst 1, 1) := by decide +kernel
theorem dX0_readDigits_115 : decode cX0_readDigits 115 = .ok (.iadd, 1) := by decide +kernel
theorem dX0_readDigits_116 : decode cX0_readDigits 116 = .ok (.putfield 241, 3) := by decide +kernel
theorem dX0_readDigits_119 : decode cX0_readDigits 119 = .ok (.iinc 1 1, 3) := by decide +kernel
theorem dX0_readDigits_122 : decode cX0_readDigits 122 = .ok (.goto (-79), 3) := by decide +kernel
theorem dX0_readDigits_125 : decode cX0_readDigits 125 = .ok (.aload_n 0, 1) := by decide +kernel
theorem dX0_readDigits_126 : decode cX0_readDigits 126 = .ok (.getfield 15, 3) := by decide +kernel
theorem dX0_readDigits_129 : decode cX0_readDigits 129 = .ok (.dup, 1) := by decide +kernel
theorem dX0_readDigits_130 : decode cX0_readDigits 130 = .ok (.getfield 58, 3) := by decide +kernel
theorem dX0_readDigits_133 : decode cX0_readDigits 133 = .ok (.iconst 1, 1) := by decide +kernel
theorem dX0_readDigits_134 : decode cX0_readDigits 134 = .ok (.iadd, 1) := by decide +kernel
theorem dX0_readDigits_135 : decode cX0_readDigits 135 = .ok (.putfield 58, 3) := by decide +kernel
theorem dX0_readDigits_138 : decode cX0_readDigits 138 = .ok (.return_, 1) := by decide +kernel
theorem dJ7_fill_d0a16_0 : decode cJ7_fill_d0a16 0 = .ok (.iconst 0, 1) := by decide +kernel
theorem dJ7_fill_d0a16_1 : decode cJ7_fill_d0a16 1 = .ok (.istore_n 3, 1) := by decide +kernel
theorem dJ7_fill_d0a16_2 : decode cJ7_fill_d0a16 2 = .ok (.aload_n 0, 1) := by decide +kernel
theorem dJ7_fill_d0a16_3 : decode cJ7_fill_d0a16 3 = .ok (.arraylength, 1) := by decide +kernel
theorem dJ7_fill_d0a16_4 : decode cJ7_fill_d0a16 4 = .ok (.istore 4, 2) := by decide +kernel
theorem dJ7_fill_d0a16_6 : decode cJ7_fill_d0a16 6 = .ok (.iload_n 3, 1) := by decide +kernel
theorem dJ7_fill_d0a16_7 : decode cJ7_fill_d0a16 7 = .ok (.iload 4, 2) := by decide +kernel
theorem dJ7_fill_d0a16_9 : decode cJ7_fill_d0a16 9 = .ok (.if_icmp .ge 13, 3) := by decide +kernel
theorem dJ7_fill_d0a16_12 : decode cJ7_fill_d0a16 12 = .ok (.aload_n 0, 1) := by decide +kernel
theorem dJ7_fill_d0a16_13 : decode cJ7_fill_d0a16 13 = .ok (.iload_n 3, 1) := by decide +kernel
theorem dJ7_fill_d0a16_14 : decode cJ7_fill_d0a16 14 = .ok (.lload_n 1, 1) := by decide +kernel
theorem dJ7_fill_d0a16_15 : decode cJ7_fill_d0a16 15 = .ok (.lastore, 1) := by decide +kernel
theorem dJ7_fill_d0a16_16 : decode cJ7_fill_d0a16 16 = .ok (.iinc 3 1, 3) := by decide +kernel
theorem dJ7_fill_d0a16_19 : decode cJ7_fill_d0a16 19 = .ok (.goto (-13), 3) := by decide +kernel
theorem dJ7_fill_d0a16_22 : decode cJ7_fill_d0a16 22 = .ok (.return_, 1) := by decide +kernel
theorem dX0_readBits_0 : decode cX0_readBits 0 = .ok (.aload_n 0, 1) := by decide +kernel
theorem dX0_readBits_1 : decode cX0_readBits 1 = .ok (.iconst 0, 1) := by decide +kernel
theorem dX0_readBits_2 : decode cX0_readBits 2 = .ok (.putfield 241, 3) := by decide +kernel
theorem dX0_readBits_5 : decode cX0_readBits 5 = .ok (.aload_n 0, 1) := by decide +kernel
theorem dX0_readBits_6 : decode cX0_readBits 6 = .ok (.getfield 9, 3) := by decide +kernel
theorem dX0_readBits_9 : decode cX0_readBits 9 = .ok (.lconst 0, 1) := by decide +kernel
theorem dX0_readBits_10 : decode cX0_readBits 10 = .ok (.invokestatic 244, 3) := by decide +kernel
theorem dX0_readBits_13 : decode cX0_readBits 13 = .ok (.aload_n 0, 1) := by decide +kernel
theorem dX0_readBits_14 : decode cX0_readBits 14 = .ok (.iconst 0, 1) := by decide +kernel
theorem dX0_readBits_15 : decode cX0_readBits 15 = .ok (.putfield 250, 3) := by decide +kernel
theorem dX0_readBits_18 : decode cX0_readBits 18 = .ok (.iconst 1, 1) := by decide +kernel
theorem dX0_readBits_19 : decode cX0_readBits 19 = .ok (.istore_n 1, 1) := by decide +kernel
theorem dX0_readBits_20 : decode cX0_readBits 20 = .ok (.iconst 0, 1) := by decide +kernel
theorem dX0_readBits_21 : decode cX0_readBits 21 = .ok (.istore_n 2, 1) := by decide +kernel
theorem dX0_readBits_22 : decode cX0_readBits 22 = .ok (.iload_n 2, 1) := by decide +kernel
theorem dX0_readBits_23 : decode cX0_readBits 23 = .ok (.aload_n 0, 1) := by decide +kernel
theorem dX0_readBits_24 : decode cX0_readBits 24 = .ok (.getfield 25, 3) := by decide +kernel
theorem dX0_readBits_27 : decode cX0_readBits 27 = .ok (.getfield 42, 3) := by decide +kernel
theorem dX0_readBits_30 : decode cX0_readBits 30 = .ok (.if_icmp .gt 117, 3) := by decide +kernel
theorem dX0_readBits_33 : decode cX0_readBits 33 = .ok (.iload_n 1, 1) := by decide +kernel
theorem dX0_readBits_34 : decode cX0_readBits 34 = .ok (.ifCond .eq 113, 3) := by decide +kernel
theorem dX0_readBits_37 : decode cX0_readBits 37 = .ok (.aload_n 0, 1) := by decide +kernel
theorem dX0_readBits_38 : decode cX0_readBits 38 = .ok (.getfield 15, 3) := by decide +kernel
theorem dX0_readBits_41 : decode cX0_readBits 41 = .ok (.invokevirtual 55, 3) := by decide +kernel
theorem dX0_readBits_44 : decode cX0_readBits 44 = .ok (.ifCond .ne 103, 3) := by decide +kernel
theorem dX0_readBits_47 : decode cX0_readBits 47 = .ok (.aload_n 0, 1) := by decide +kernel
theorem dX0_readBits_48 : decode cX0_readBits 48 = .ok (.getfield 25, 3) := by decide +kernel
theorem dX0_readBits_51 : decode cX0_readBits 51 = .ok (.getfield 224, 3) := by decide +kernel
theorem dX0_readBits_54 : decode cX0_readBits 54 = .ok (.aload_n 0, 1) := by decide +kernel
theorem dX0_readBits_55 : decode cX0_readBits 55 = .ok (.getfield 15, 3) := by decide +kernel
theorem dX0_readBits_58 : decode cX0_readBits 58 = .ok (.getfield 58, 3) := by decide +kernel
theorem dX0_readBits_61 : decode cX0_readBits 61 = .ok (.baload, 1) := by decide +kernel
theorem dX0_readBits_62 : decode cX0_readBits 62 = .ok (.iconst 2, 1) := by decide +kernel
theorem dX0_readBits_63 : decode cX0_readBits 63 = .ok (.if_icmp .ne 10, 3) := by decide +kernel
theorem dX0_readBits_66 : decode cX0_readBits 66 = .ok (.aload_n 0, 1) := by decide +kernel
theorem dX0_readBits_67 : decode cX0_readBits 67 = .ok (.invokevirtual 254, 3) := by decide +kernel
theorem dX0_readBits_70 : decode cX0_readBits 70 = .ok (.goto 71, 3) := by decide +kernel
theorem dX0_readBits_73 : decode cX0_readBits 73 = .ok (.aload_n 0, 1) := by decide +kernel
theorem dX0_readBits_74 : decode cX0_readBits 74 = .ok (.getfield 15, 3) := by decide +kernel
theorem dX0_readBits_77 : decode cX0_readBits 77 = .ok (.invokevirtual 117, 3) := by decide +kernel
theorem dX0_readBits_80 : decode cX0_readBits 80 = .ok (.ifCond .eq 10, 3) := by decide +kernel
theorem dX0_readBits_83 : decode cX0_readBits 83 = .ok (.aload_n 0, 1) := by decide +kernel
theorem dX0_readBits_84 : decode cX0_readBits 84 = .ok (.invokevirtual 257, 3) := by decide +kernel
theorem dX0_readBits_87 : decode cX0_readBits 87 = .ok (.goto 54, 3) := by decide +kernel
theorem dX0_readBits_90 : decode cX0_readBits 90 = .ok (.aload_n 0, 1) := by decide +kernel
theorem dX0_readBits_91 : decode cX0_readBits 91 = .ok (.getfield 15, 3) := by decide +kernel
theorem dX0_readBits_94 : decode cX0_readBits 94 = .ok (.bipush 124, 2) := by decide +kernel
theorem dX0_readBits_96 : decode cX0_readBits 96 = .ok (.invokevirtual 190, 3) := by decide +kernel
theorem dX0_readBits_99 : decode cX0_readBits 99 = .ok (.ifCond .eq 11, 3) := by decide +kernel
theorem dX0_readBits_102 : decode cX0_readBits 102 = .ok (.aload_n 0, 1) := by decide +kernel
theorem dX0_readBits_103 : decode cX0_readBits 103 = .ok (.iconst 1, 1) := by decide +kernel
theorem dX0_readBits_104 : decode cX0_readBits 104 = .ok (.invokevirtual 260, 3) := by decide +kernel
theorem dX0_readBits_107 : decode cX0_readBits 107 = .ok (.goto 34, 3) := by decide +kernel
theorem dX0_readBits_110 : decode cX0_readBits 110 = .ok (.aload_n 0, 1) := by decide +kernel
theorem dX0_readBits_111 : decode cX0_readBits 111 = .ok (.getfield 15, 3) := by decide +kernel
theorem dX0_readBits_114 : decode cX0_readBits 114 = .ok (.bipush 59, 2) := by decide +kernel
theorem dX0_readBits_116 : decode cX0_readBits 116 = .ok (.invokevirtual 190, 3) := by decide +kernel
theorem dX0_readBits_119 : decode cX0_readBits 119 = .ok (.ifCond .eq 13, 3) := by decide +kernel
theorem dX0_readBits_122 : decode cX0_readBits 122 = .ok (.aload_n 0, 1) := by decide +kernel
theorem dX0_readBits_123 : decode cX0_readBits 123 = .ok (.iconst 0, 1) := by decide +kernel
theorem dX0_readBits_124 : decode cX0_readBits 124 = .ok (.invokevirtual 260, 3) := by decide +kernel
theorem dX0_readBits_127 : decode cX0_readBits 127 = .ok (.iconst 0, 1) := by decide +kernel
theorem dX0_readBits_128 : decode cX0_readBits 128 = .ok (.istore_n 1, 1) := by decide +kernel
theorem dX0_readBits_129 : decode cX0_readBits 129 = .ok (.goto 12, 3) := by decide +kernel
theorem dX0_readBits_132 : decode cX0_readBits 132 = .ok (.aload_n 0, 1) := by decide +kernel
theorem dX0_readBits_133 : decode cX0_readBits 133 = .ok (.getfield 15, 3) := by decide +kernel
theorem dX0_readBits_136 : decode cX0_readBits 136 = .ok (.iconst 1, 1) := by decide +kernel
theorem dX0_readBits_137 : decode cX0_readBits 137 = .ok (.invokevirtual 67, 3) := by decide +kernel
theorem dX0_readBits_140 : decode cX0_readBits 140 = .ok (.pop, 1) := by decide +kernel
theorem dX0_readBits_141 : decode cX0_readBits 141 = .ok (.iinc 2 1, 3) := by decide +kernel
theorem dX0_readBits_144 : decode cX0_readBits 144 = .ok (.goto (-122), 3) := by decide +kernel
theorem dX0_readBits_147 : decode cX0_readBits 147 = .ok (.return_, 1) := by decide +kernel
theorem dX5_addInstruction_0 : decode cX5_addInstruction 0 = .ok (.aload_n 0, 1) := by decide +kernel
theorem dX5_addInstruction_1 : decode cX5_addInstruction 1 = .ok (.getfield 19, 3) := by decide +kernel
theorem dX5_addInstruction_4 : decode cX5_addInstruction 4 = .ok (.aload_n 0, 1) := by decide +kernel
theorem dX5_addInstruction_5 : decode cX5_addInstruction 5 = .ok (.getfield 30, 3) := by decide +kernel
theorem dX5_addInstruction_8 : decode cX5_addInstruction 8 = .ok (.aload_n 1, 1) := by decide +kernel
theorem dX5_addInstruction_9 : decode cX5_addInstruction 9 = .ok (.aastore, 1) := by decide +kernel
theorem dX5_addInstruction_10 : decode cX5_addInstruction 10 = .ok (.aload_n 0, 1) := by decide +kernel
theorem dX5_addInstruction_11 : decode cX5_addInstruction 11 = .ok (.dup, 1) := by decide +kernel
theorem dX5_addInstruction_12 : decode cX5_addInstruction 12 = .ok (.getfield 30, 3) := by decide +kernel
theorem dX5_addInstruction_15 : decode cX5_addInstruction 15 = .ok (.iconst 1, 1) := by decide +kernel
theorem dX5_addInstruction_16 : decode cX5_addInstruction 16 = .ok (.iadd, 1) := by decide +kernel
theorem dX5_addInstruction_17 : decode cX5_addInstruction 17 = .ok (.putfield 30, 3) := by decide +kernel
theorem dX5_addInstruction_20 : decode cX5_addInstruction 20 = .ok (.return_, 1) := by decide +kernel
theorem dJ0_isLatin1_aae02_0 : decode cJ0_isLatin1_aae02 0 = .ok (.getstatic 38, 3) := by decide +kernel
theorem dJ0_isLatin1_aae02_3 : decode cJ0_isLatin1_aae02 3 = .ok (.ifCond .eq 14, 3) := by decide +kernel
theorem dJ0_isLatin1_aae02_6 : decode cJ0_isLatin1_aae02 6 = .ok (.aload_n 0, 1) := by decide +kernel
theorem dJ0_isLatin1_aae02_7 : decode cJ0_isLatin1_aae02 7 = .ok (.getfield 15, 3) := by decide +kernel
theorem dJ0_isLatin1_aae02_10 : decode cJ0_isLatin1_aae02 10 = .ok (.ifCond .ne 7, 3) := by decide +kernel
theorem dJ0_isLatin1_aae02_13 : decode cJ0_isLatin1_aae02 13 = .ok (.iconst 1, 1) := by decide +kernel
theorem dJ0_isLatin1_aae02_14 : decode cJ0_isLatin1_aae02 14 = .ok (.goto 4, 3) := by decide +kernel
theorem dJ0_isLatin1_aae02_17 : decode cJ0_isLatin1_aae02 17 = .ok (.iconst 0, 1) := by decide +kernel
theorem dJ0_isLatin1_aae02_18 : decode cJ0_isLatin1_aae02 18 = .ok (.ireturn, 1) := by decide +kernel
theorem dJ0_coder_7d493_0 : decode cJ0_coder_7d493 0 = .ok (.getstatic 38, 3) := by decide +kernel
theorem dJ0_coder_7d493_3 : decode cJ0_coder_7d493 3 = .ok (.ifCond .eq 10, 3) := by decide +kernel
theorem dJ0_coder_7d493_6 : decode cJ0_coder_7d493 6 = .ok (.aload_n 0, 1) := by decide +kernel
theorem dJ0_coder_7d493_7 : decode cJ0_coder_7d493 7 = .ok (.getfield 15, 3) := by decide +kernel
theorem dJ0_coder_7d493_10 : decode cJ0_coder_7d493 10 = .ok (.goto 4, 3) := by decide +kernel
theorem dJ0_coder_7d493_13 : decode cJ0_coder_7d493 13 = .ok (.iconst 1, 1) := by decide +kernel
theorem dJ0_coder_7d493_14 : decode cJ0_coder_7d493 14 = .ok (.ireturn, 1) := by decide +kernel
theorem dJ0_length_8abf5_0 : decode cJ0_length_8abf5 0 = .ok (.aload_n 0, 1) := by decide +kernel
theorem dJ0_length_8abf5_1 : decode cJ0_length_8abf5 1 = .ok (.getfield 9, 3) := by decide +kernel
theorem dJ0_length_8abf5_4 : decode cJ0_length_8abf5 4 = .ok (.arraylength, 1) := by decide +kernel
theorem dJ0_length_8abf5_5 : decode cJ0_length_8abf5 5 = .ok (.aload_n 0, 1) := by decide +kernel
theorem dJ0_length_8abf5_6 : decode cJ0_length_8abf5 6 = .ok (.invokevirtual 335, 3) := by decide +kernel
theorem dJ0_length_8abf5_9 : decode cJ0_length_8abf5 9 = .ok (.ishr, 1) := by decide +kernel
theorem dJ0_length_8abf5_10 : decode cJ0_length_8abf5 10 = .ok (.ireturn, 1) := by decide +kernel
theorem dJ1_canEncode_9a6ad_0 : decode cJ1_canEncode_9a6ad 0 = .ok (.iload_n 0, 1) := by decide +kernel
theorem dJ1_canEncode_9a6ad_1 : decode cJ1_canEncode_9a6ad 1 = .ok (.ifCond .lt 14, 3) := by decide +kernel
theorem dJ1_canEncode_9a6ad_4 : decode cJ1_canEncode_9a6ad 4 = .ok (.iload_n 0, 1) := by decide +kernel
theorem dJ1_canEncode_9a6ad_5 : decode cJ1_canEncode_9a6ad 5 = .ok (.sipush 255, 3) := by decide +kernel
theorem dJ1_canEncode_9a6ad_8 : decode cJ1_canEncode_9a6ad 8 = .ok (.if_icmp .gt 7, 3) := by decide +kernel
theorem dJ1_canEncode_9a6ad_11 : decode cJ1_canEncode_9a6ad 11 = .ok (.iconst 1, 1) := by decide +kernel
theorem dJ1_canEncode_9a6ad_12 : decode cJ1_canEncode_9a6ad 12 = .ok (.goto 4, 3) := by decide +kernel
theorem dJ1_canEncode_9a6ad_15 : decode cJ1_canEncode_9a6ad 15 = .ok (.iconst 0, 1) := by decide +kernel
theorem dJ1_canEncode_9a6ad_16 : decode cJ1_canEncode_9a6ad 16 = .ok (.ireturn, 1) := by decide +kernel
theorem dJ9_max_7cf53_0 : decode cJ9_max_7cf53 0 = .ok (.iload_n 0, 1) := by decide +kernel
theorem dJ9_max_7cf53_1 : decode cJ9_max_7cf53 1 = .ok (.iload_n 1, 1) := by decide +kernel
theorem dJ9_max_7cf53_2 : decode cJ9_max_7cf53 2 = .ok (.if_icmp .lt 7, 3) := by decide +kernel
theorem dJ9_max_7cf53_5 : decode cJ9_max_7cf53 5 = .ok (.iload_n 0, 1) := by decide +kernel
theorem dJ9_max_7cf53_6 : decode cJ9_max_7cf53 6 = .ok (.goto 4, 3) := by decide +kernel
theorem dJ9_max_7cf53_9 : decode cJ9_max_7cf53 9 = .ok (.iload_n 1, 1) := by decide +kernel
theorem dJ9_max_7cf53_10 : decode cJ9_max_7cf53 10 = .ok (.ireturn, 1) := by decide +kernel
theorem dJ1_indexOfChar_4cfef_0 : decode cJ1_indexOfChar_4cfef 0 = .ok (.iload_n 1, 1) := by decide +kernel
theorem dJ1_indexOfChar_4cfef_1 : decode cJ1_indexOfChar_4cfef 1 = .ok (.i2b, 1) := by decide +kernel
theorem dJ1_indexOfChar_4cfef_2 : decode cJ1_indexOfChar_4cfef 2 = .ok (.istore 4, 2) := by decide +kernel
theorem dJ1_indexOfChar_4cfef_4 : decode cJ1_indexOfChar_4cfef 4 = .ok (.iload_n 2, 1) := by decide +kernel
theorem dJ1_indexOfChar_4cfef_5 : decode cJ1_indexOfChar_4cfef 5 = .ok (.istore 5, 2) := by decide +kernel
theorem dJ1_indexOfChar_4cfef_7 : decode cJ1_indexOfChar_4cfef 7 = .ok (.iload 5, 2) := by decide +kernel
theorem dJ1_indexOfChar_4cfef_9 : decode cJ1_indexOfChar_4cfef 9 = .ok (.iload_n 3, 1) := by decide +kernel
theorem dJ1_indexOfChar_4cfef_10 : decode cJ1_indexOfChar_4cfef 10 = .ok (.if_icmp .ge 21, 3) := by decide +kernel
theorem dJ1_indexOfChar_4cfef_13 : decode cJ1_indexOfChar_4cfef 13 = .ok (.aload_n 0, 1) := by decide +kernel
theorem dJ1_indexOfChar_4cfef_14 : decode cJ1_indexOfChar_4cfef 14 = .ok (.iload 5, 2) := by decide +kernel
theorem dJ1_indexOfChar_4cfef_16 : decode cJ1_indexOfChar_4cfef 16 = .ok (.baload, 1) := by decide +kernel
theorem dJ1_indexOfChar_4cfef_17 : decode cJ1_indexOfChar_4cfef 17 = .ok (.iload 4, 2) := by decide +kernel
theorem dJ1_indexOfChar_4cfef_19 : decode cJ1_indexOfChar_4cfef 19 = .ok (.if_icmp .ne 6, 3) := by decide +kernel
theorem dJ1_indexOfChar_4cfef_22 : decode cJ1_indexOfChar_4cfef 22 = .ok (.iload 5, 2) := by decide +kernel
theorem dJ1_indexOfChar_4cfef_24 : decode cJ1_indexOfChar_4cfef 24 = .ok (.ireturn, 1) := by decide +kernel
theorem dJ1_indexOfChar_4cfef_25 : decode cJ1_indexOfChar_4cfef 25 = .ok (.iinc 5 1, 3) := by decide +kernel
theorem dJ1_indexOfChar_4cfef_28 : decode cJ1_indexOfChar_4cfef 28 = .ok (.goto (-21), 3) := by decide +kernel
theorem dJ1_indexOfChar_4cfef_31 : decode cJ1_indexOfChar_4cfef 31 = .ok (.iconst (-1), 1) := by decide +kernel
theorem dJ1_indexOfChar_4cfef_32 : decode cJ1_indexOfChar_4cfef 32 = .ok (.ireturn, 1) := by decide +kernel
theorem dJ1_indexOf_4cfef_0 : decode cJ1_indexOf_4cfef 0 = .ok (.iload_n 1, 1) := by decide +kernel
theorem dJ1_indexOf_4cfef_1 : decode cJ1_indexOf_4cfef 1 = .ok (.invokestatic 88, 3) := by decide +kernel
theorem dJ1_indexOf_4cfef_4 : decode cJ1_indexOf_4cfef 4 = .ok (.ifCond .ne 5, 3) := by decide +kernel
theorem dJ1_indexOf_4cfef_7 : decode cJ1_indexOf_4cfef 7 = .ok (.iconst (-1), 1) := by decide +kernel
theorem dJ1_indexOf_4cfef_8 : decode cJ1_indexOf_4cfef 8 = .ok (.ireturn, 1) := by decide +kernel
theorem dJ1_indexOf_4cfef_9 : decode cJ1_indexOf_4cfef 9 = .ok (.iload_n 2, 1) := by decide +kernel
theorem dJ1_indexOf_4cfef_10 : decode cJ1_indexOf_4cfef 10 = .ok (.iconst 0, 1) := by decide +kernel
theorem dJ1_indexOf_4cfef_11 : decode cJ1_indexOf_4cfef 11 = .ok (.invokestatic 92, 3) := by decide +kernel
theorem dJ1_indexOf_4cfef_14 : decode cJ1_indexOf_4cfef 14 = .ok (.istore_n 2, 1) := by decide +kernel
theorem dJ1_indexOf_4cfef_15 : decode cJ1_indexOf_4cfef 15 = .ok (.iload_n 3, 1) := by decide +kernel
theorem dJ1_indexOf_4cfef_16 : decode cJ1_indexOf_4cfef 16 = .ok (.aload_n 0, 1) := by decide +kernel
theorem dJ1_indexOf_4cfef_17 : decode cJ1_indexOf_4cfef 17 = .ok (.arraylength, 1) := by decide +kernel
theorem dJ1_indexOf_4cfef_18 : decode cJ1_indexOf_4cfef 18 = .ok (.invokestatic 38, 3) := by decide +kernel
theorem dJ1_indexOf_4cfef_21 : decode cJ1_indexOf_4cfef 21 = .ok (.istore_n 3, 1) := by decide +kernel
theorem dJ1_indexOf_4cfef_22 : decode cJ1_indexOf_4cfef 22 = .ok (.iload_n 2, 1) := by decide +kernel
theorem dJ1_indexOf_4cfef_23 : decode cJ1_indexOf_4cfef 23 = .ok (.iload_n 3, 1) := by decide +kernel
theorem dJ1_indexOf_4cfef_24 : decode cJ1_indexOf_4cfef 24 = .ok (.if_icmp .lt 5, 3) := by decide +kernel
theorem dJ1_indexOf_4cfef_27 : decode cJ1_indexOf_4cfef 27 = .ok (.iconst (-1), 1) := by decide +kernel
theorem dJ1_indexOf_4cfef_28 : decode cJ1_indexOf_4cfef 28 = .ok (.ireturn, 1) := by decide +kernel
theorem dJ1_indexOf_4cfef_29 : decode cJ1_indexOf_4cfef 29 = .ok (.aload_n 0, 1) := by decide +kernel
theorem dJ1_indexOf_4cfef_30 : decode cJ1_indexOf_4cfef 30 = .ok (.iload_n 1, 1) := by decide +kernel
theorem dJ1_indexOf_4cfef_31 : decode cJ1_indexOf_4cfef 31 = .ok (.iload_n 2, 1) := by decide +kernel
theorem dJ1_indexOf_4cfef_32 : decode cJ1_indexOf_4cfef 32 = .ok (.iload_n 3, 1) := by decide +kernel
theorem dJ1_indexOf_4cfef_33 : decode cJ1_indexOf_4cfef 33 = .ok (.invokestatic 95, 3) := by decide +kernel
theorem dJ1_indexOf_4cfef_36 : decode cJ1_indexOf_4cfef 36 = .ok (.ireturn, 1) := by decide +kernel
theorem dJ0_indexOf_7cf53_0 : decode cJ0_indexOf_7cf53 0 = .ok (.aload_n 0, 1) := by decide +kernel
theorem dJ0_indexOf_7cf53_1 : decode cJ0_indexOf_7cf53 1 = .ok (.invokevirtual 492, 3) := by decide +kernel
theorem dJ0_indexOf_7cf53_4 : decode cJ0_indexOf_7cf53 4 = .ok (.ifCond .eq 19, 3) := by decide +kernel
theorem dJ0_indexOf_7cf53_7 : decode cJ0_indexOf_7cf53 7 = .ok (.aload_n 0, 1) := by decide +kernel
theorem dJ0_indexOf_7cf53_8 : decode cJ0_indexOf_7cf53 8 = .ok (.getfield 9, 3) := by decide +kernel
theorem dJ0_indexOf_7cf53_11 : decode cJ0_indexOf_7cf53 11 = .ok (.iload_n 1, 1) := by decide +kernel
theorem dJ0_indexOf_7cf53_12 : decode cJ0_indexOf_7cf53 12 = .ok (.iload_n 2, 1) := by decide +kernel
theorem dJ0_indexOf_7cf53_13 : decode cJ0_indexOf_7cf53 13 = .ok (.aload_n 0, 1) := by decide +kernel
theorem dJ0_indexOf_7cf53_14 : decode cJ0_indexOf_7cf53 14 = .ok (.invokevirtual 505, 3) := by decide +kernel
theorem dJ0_indexOf_7cf53_17 : decode cJ0_indexOf_7cf53 17 = .ok (.invokestatic 637, 3) := by decide +kernel
theorem dJ0_indexOf_7cf53_20 : decode cJ0_indexOf_7cf53 20 = .ok (.goto 16, 3) := by decide +kernel
theorem dJ0_indexOf_7cf53_23 : decode cJ0_indexOf_7cf53 23 = .ok (.aload_n 0, 1) := by decide +kernel
theorem dJ0_indexOf_7cf53_24 : decode cJ0_indexOf_7cf53 24 = .ok (.getfield 9, 3) := by decide +kernel
theorem dJ0_indexOf_7cf53_27 : decode cJ0_indexOf_7cf53 27 = .ok (.iload_n 1, 1) := by decide +kernel
theorem dJ0_indexOf_7cf53_28 : decode cJ0_indexOf_7cf53 28 = .ok (.iload_n 2, 1) := by decide +kernel
theorem dJ0_indexOf_7cf53_29 : decode cJ0_indexOf_7cf53 29 = .ok (.aload_n 0, 1) := by decide +kernel
theorem dJ0_indexOf_7cf53_30 : decode cJ0_indexOf_7cf53 30 = .ok (.invokevirtual 505, 3) := by decide +kernel
theorem dJ0_indexOf_7cf53_33 : decode cJ0_indexOf_7cf53 33 = .ok (.invokestatic 640, 3) := by decide +kernel
theorem dJ0_indexOf_7cf53_36 : decode cJ0_indexOf_7cf53 36 = .ok (.ireturn, 1) := by decide +kernel
theorem dJ0_indexOf_0f7a4_0 : decode cJ0_indexOf_0f7a4 0 = .ok (.aload_n 0, 1) := by decide +kernel
theorem dJ0_indexOf_0f7a4_1 : decode cJ0_indexOf_0f7a4 1 = .ok (.iload_n 1, 1) := by decide +kernel
theorem dJ0_indexOf_0f7a4_2 : decode cJ0_indexOf_0f7a4 2 = .ok (.iconst 0, 1) := by decide +kernel
theorem dJ0_indexOf_0f7a4_3 : decode cJ0_indexOf_0f7a4 3 = .ok (.invokevirtual 633, 3) := by decide +kernel
theorem dJ0_indexOf_0f7a4_6 : decode cJ0_indexOf_0f7a4 6 = .ok (.ireturn, 1) := by decide +kernel
theorem dX0_isPartSign_0 : decode cX0_isPartSign 0 = .ok (.aload_n 0, 1) := by decide +kernel
theorem dX0_isPartSign_1 : decode cX0_isPartSign 1 = .ok (.getfield 25, 3) := by decide +kernel
theorem dX0_isPartSign_4 : decode cX0_isPartSign 4 = .ok (.getfield 224, 3) := by decide +kernel
theorem dX0_isPartSign_7 : decode cX0_isPartSign 7 = .ok (.iload_n 1, 1) := by decide +kernel
theorem dX0_isPartSign_8 : decode cX0_isPartSign 8 = .ok (.baload, 1) := by decide +kernel
theorem dX0_isPartSign_9 : decode cX0_isPartSign 9 = .ok (.iconst 3, 1) := by decide +kernel
theorem dX0_isPartSign_10 : decode cX0_isPartSign 10 = .ok (.if_icmp .ne 30, 3) := by decide +kernel
theorem dX0_isPartSign_13 : decode cX0_isPartSign 13 = .ok (.ldc 228, 2) := by decide +kernel
theorem dX0_isPartSign_15 : decode cX0_isPartSign 15 = .ok (.aload_n 0, 1) := by decide +kernel
theorem dX0_isPartSign_16 : decode cX0_isPartSign 16 = .ok (.getfield 25, 3) := by decide +kernel
theorem dX0_isPartSign_19 : decode cX0_isPartSign 19 = .ok (.getfield 218, 3) := by decide +kernel
theorem dX0_isPartSign_22 : decode cX0_isPartSign 22 = .ok (.iload_n 1, 1) := by decide +kernel
theorem dX0_isPartSign_23 : decode cX0_isPartSign 23 = .ok (.laload, 1) := by decide +kernel
theorem dX0_isPartSign_24 : decode cX0_isPartSign 24 = .ok (.ldc2_w 230, 3) := by decide +kernel
theorem dX0_isPartSign_27 : decode cX0_isPartSign 27 = .ok (.land, 1) := by decide +kernel
theorem dX0_isPartSign_28 : decode cX0_isPartSign 28 = .ok (.l2i, 1) := by decide +kernel
theorem dX0_isPartSign_29 : decode cX0_isPartSign 29 = .ok (.i2c, 1) := by decide +kernel
theorem dX0_isPartSign_30 : decode cX0_isPartSign 30 = .ok (.invokevirtual 232, 3) := by decide +kernel
theorem dX0_isPartSign_33 : decode cX0_isPartSign 33 = .ok (.ifCond .lt 7, 3) := by decide +kernel
theorem dX0_isPartSign_36 : decode cX0_isPartSign 36 = .ok (.iconst 1, 1) := by decide +kernel
theorem dX0_isPartSign_37 : decode cX0_isPartSign 37 = .ok (.goto 4, 3) := by decide +kernel
theorem dX0_isPartSign_40 : decode cX0_isPartSign 40 = .ok (.iconst 0, 1) := by decide +kernel
theorem dX0_isPartSign_41 : decode cX0_isPartSign 41 = .ok (.ireturn, 1) := by decide +kernel
theorem dX1_addPart_0 : decode cX1_addPart 0 = .ok (.aload_n 0, 1) := by decide +kernel
theorem dX1_addPart_1 : decode cX1_addPart 1 = .ok (.getfield 9, 3) := by decide +kernel
theorem dX1_addPart_4 : decode cX1_addPart 4 = .ok (.aload_n 0, 1) := by decide +kernel
theorem dX1_addPart_5 : decode cX1_addPart 5 = .ok (.getfield 41, 3) := by decide +kernel
theorem dX1_addPart_8 : decode cX1_addPart 8 = .ok (.iload_n 1, 1) := by decide +kernel
theorem dX1_addPart_9 : decode cX1_addPart 9 = .ok (.iastore, 1) := by decide +kernel
theorem dX1_addPart_10 : decode cX1_addPart 10 = .ok (.aload_n 0, 1) := by decide +kernel
theorem dX1_addPart_11 : decode cX1_addPart 11 = .ok (.dup, 1) := by decide +kernel
theorem dX1_addPart_12 : decode cX1_addPart 12 = .ok (.getfield 41, 3) := by decide +kernel
theorem dX1_addPart_15 : decode cX1_addPart 15 = .ok (.iconst 1, 1) := by decide +kernel
theorem dX1_addPart_16 : decode cX1_addPart 16 = .ok (.iadd, 1) := by decide +kernel
theorem dX1_addPart_17 : decode cX1_addPart 17 = .ok (.putfield 41, 3) := by decide +kernel
theorem dX1_addPart_20 : decode cX1_addPart 20 = .ok (.return_, 1) := by decide +kernel
theorem dX1_addOperand_0 : decode cX1_addOperand 0 = .ok (.aload_n 0, 1) := by decide +kernel
theorem dX1_addOperand_1 : decode cX1_addOperand 1 = .ok (.getfield 17, 3) := by decide +kernel
theorem dX1_addOperand_4 : decode cX1_addOperand 4 = .ok (.aload_n 0, 1) := by decide +kernel
theorem dX1_addOperand_5 : decode cX1_addOperand 5 = .ok (.getfield 45, 3) := by decide +kernel
theorem dX1_addOperand_8 : decode cX1_addOperand 8 = .ok (.aload_n 1, 1) := by decide +kernel
theorem dX1_addOperand_9 : decode cX1_addOperand 9 = .ok (.aastore, 1) := by decide +kernel
theorem dX1_addOperand_10 : decode cX1_addOperand 10 = .ok (.aload_n 0, 1) := by decide +kernel
theorem dX1_addOperand_11 : decode cX1_addOperand 11 = .ok (.getfield 23, 3) := by decide +kernel
theorem dX1_addOperand_14 : decode cX1_addOperand 14 = .ok (.aload_n 0, 1) := by decide +kernel
theorem dX1_addOperand_15 : decode cX1_addOperand 15 = .ok (.getfield 45, 3) := by decide +kernel
theorem dX1_addOperand_18 : decode cX1_addOperand 18 = .ok (.aload_n 2, 1) := by decide +kernel
theorem dX1_addOperand_19 : decode cX1_addOperand 19 = .ok (.aastore, 1) := by decide +kernel
theorem dX1_addOperand_20 : decode cX1_addOperand 20 = .ok (.aload_n 0, 1) := by decide +kernel
theorem dX1_addOperand_21 : decode cX1_addOperand 21 = .ok (.iconst (-1), 1) := by decide +kernel
theorem dX1_addOperand_22 : decode cX1_addOperand 22 = .ok (.aload_n 0, 1) := by decide +kernel
theorem dX1_addOperand_23 : decode cX1_addOperand 23 = .ok (.getfield 45, 3) := by decide +kernel
theorem dX1_addOperand_26 : decode cX1_addOperand 26 = .ok (.isub, 1) := by decide +kernel
theorem dX1_addOperand_27 : decode cX1_addOperand 27 = .ok (.invokevirtual 48, 3) := by decide +kernel
theorem dX1_addOperand_30 : decode cX1_addOperand 30 = .ok (.aload_n 0, 1) := by decide +kernel
theorem dX1_addOperand_31 : decode cX1_addOperand 31 = .ok (.dup, 1) := by decide +kernel
theorem dX1_addOperand_32 : decode cX1_addOperand 32 = .ok (.getfield 45, 3) := by decide +kernel
theorem dX1_addOperand_35 : decode cX1_addOperand 35 = .ok (.iconst 1, 1) := by decide +kernel
theorem dX1_addOperand_36 : decode cX1_addOperand 36 = .ok (.iadd, 1) := by decide +kernel
theorem dX1_addOperand_37 : decode cX1_addOperand 37 = .ok (.putfield 45, 3) := by decide +kernel
theorem dX1_addOperand_40 : decode cX1_addOperand 40 = .ok (.return_, 1) := by decide +kernel
theorem dX0_readOperand_0 : decode cX0_readOperand 0 = .ok (.aload_n 0, 1) := by decide +kernel
theorem dX0_readOperand_1 : decode cX0_readOperand 1 = .ok (.getfield 15, 3) := by decide +kernel
theorem dX0_readOperand_4 : decode cX0_readOperand 4 = .ok (.getfield 58, 3) := by decide +kernel
theorem dX0_readOperand_7 : decode cX0_readOperand 7 = .ok (.istore_n 1, 1) := by decide +kernel
theorem dX0_readOperand_8 : decode cX0_readOperand 8 = .ok (.aload_n 0, 1) := by decide +kernel
theorem dX0_readOperand_9 : decode cX0_readOperand 9 = .ok (.getfield 15, 3) := by decide +kernel
theorem dX0_readOperand_12 : decode cX0_readOperand 12 = .ok (.dup, 1) := by decide +kernel
theorem dX0_readOperand_13 : decode cX0_readOperand 13 = .ok (.getfield 58, 3) := by decide +kernel
theorem dX0_readOperand_16 : decode cX0_readOperand 16 = .ok (.iconst 1, 1) := by decide +kernel
theorem dX0_readOperand_17 : decode cX0_readOperand 17 = .ok (.iadd, 1) := by decide +kernel
theorem dX0_readOperand_18 : decode cX0_readOperand 18 = .ok (.putfield 58, 3) := by decide +kernel
theorem dX0_readOperand_21 : decode cX0_readOperand 21 = .ok (.aload_n 0, 1) := by decide +kernel
theorem dX0_readOperand_22 : decode cX0_readOperand 22 = .ok (.getfield 15, 3) := by decide +kernel
theorem dX0_readOperand_25 : decode cX0_readOperand 25 = .ok (.bipush 58, 2) := by decide +kernel
theorem dX0_readOperand_27 : decode cX0_readOperand 27 = .ok (.invokevirtual 87, 3) := by decide +kernel
theorem dX0_readOperand_30 : decode cX0_readOperand 30 = .ok (.ifCond .ne 4, 3) := by decide +kernel
theorem dX0_readOperand_33 : decode cX0_readOperand 33 = .ok (.return_, 1) := by decide +kernel
theorem dX0_readOperand_34 : decode cX0_readOperand 34 = .ok (.aload_n 0, 1) := by decide +kernel
theorem dX0_readOperand_35 : decode cX0_readOperand 35 = .ok (.getfield 15, 3) := by decide +kernel
theorem dX0_readOperand_38 : decode cX0_readOperand 38 = .ok (.invokevirtual 117, 3) := by decide +kernel
theorem dX0_readOperand_41 : decode cX0_readOperand 41 = .ok (.ifCond .ne 13, 3) := by decide +kernel
theorem dX0_readOperand_44 : decode cX0_readOperand 44 = .ok (.aload_n 0, 1) := by decide +kernel
theorem dX0_readOperand_45 : decode cX0_readOperand 45 = .ok (.getfield 15, 3) := by decide +kernel
theorem dX0_readOperand_48 : decode cX0_readOperand 48 = .ok (.iconst 1, 1) := by decide +kernel
theorem dX0_readOperand_49 : decode cX0_readOperand 49 = .ok (.invokevirtual 67, 3) := by decide +kernel
theorem dX0_readOperand_52 : decode cX0_readOperand 52 = .ok (.pop, 1) := by decide +kernel
theorem dX0_readOperand_53 : decode cX0_readOperand 53 = .ok (.return_, 1) := by decide +kernel
theorem dX0_readOperand_54 : decode cX0_readOperand 54 = .ok (.aload_n 0, 1) := by decide +kernel
theorem dX0_readOperand_55 : decode cX0_readOperand 55 = .ok (.getfield 26, 3) := by decide +kernel
theorem dX0_readOperand_58 : decode cX0_readOperand 58 = .ok (.aload_n 0, 1) := by decide +kernel
theorem dX0_readOperand_59 : decode cX0_readOperand 59 = .ok (.getfield 25, 3) := by decide +kernel
theorem dX0_readOperand_62 : decode cX0_readOperand 62 = .ok (.aload_n 0, 1) := by decide +kernel
theorem dX0_readOperand_63 : decode cX0_readOperand 63 = .ok (.getfield 15, 3) := by decide +kernel
theorem dX0_readOperand_66 : decode cX0_readOperand 66 = .ok (.getfield 58, 3) := by decide +kernel
theorem dX0_readOperand_69 : decode cX0_readOperand 69 = .ok (.invokevirtual 120, 3) := by decide +kernel
theorem dX0_readOperand_72 : decode cX0_readOperand 72 = .ok (.astore_n 2, 1) := by decide +kernel
theorem dX0_readOperand_73 : decode cX0_readOperand 73 = .ok (.aload_n 2, 1) := by decide +kernel
theorem dX0_readOperand_74 : decode cX0_readOperand 74 = .ok (.ifnonnull 13, 3) := by decide +kernel
theorem dX0_readOperand_77 : decode cX0_readOperand 77 = .ok (.aload_n 0, 1) := by decide +kernel
theorem dX0_readOperand_78 : decode cX0_readOperand 78 = .ok (.getfield 15, 3) := by decide +kernel
theorem dX0_readOperand_81 : decode cX0_readOperand 81 = .ok (.iconst 2, 1) := by decide +kernel
theorem dX0_readOperand_82 : decode cX0_readOperand 82 = .ok (.invokevirtual 67, 3) := by decide +kernel
theorem dX0_readOperand_85 : decode cX0_readOperand 85 = .ok (.pop, 1) := by decide +kernel
theorem dX0_readOperand_86 : decode cX0_readOperand 86 = .ok (.return_, 1) := by decide +kernel
theorem dX0_readOperand_87 : decode cX0_readOperand 87 = .ok (.aload_n 0, 1) := by decide +kernel
theorem dX0_readOperand_88 : decode cX0_readOperand 88 = .ok (.getfield 186, 3) := by decide +kernel
theorem dX0_readOperand_91 : decode cX0_readOperand 91 = .ok (.new 129, 3) := by decide +kernel
theorem dX0_readOperand_94 : decode cX0_readOperand 94 = .ok (.dup, 1) := by decide +kernel
theorem dX0_readOperand_95 : decode cX0_readOperand 95 = .ok (.aload_n 0, 1) := by decide +kernel
theorem dX0_readOperand_96 : decode cX0_readOperand 96 = .ok (.getfield 25, 3) := by decide +kernel
theorem dX0_readOperand_99 : decode cX0_readOperand 99 = .ok (.iload_n 1, 1) := by decide +kernel
theorem dX0_readOperand_100 : decode cX0_readOperand 100 = .ok (.invokespecial 131, 3) := by decide +kernel
theorem dX0_readOperand_103 : decode cX0_readOperand 103 = .ok (.aload_n 2, 1) := by decide +kernel
theorem dX0_readOperand_104 : decode cX0_readOperand 104 = .ok (.invokevirtual 237, 3) := by decide +kernel
theorem dX0_readOperand_107 : decode cX0_readOperand 107 = .ok (.aload_n 0, 1) := by decide +kernel
theorem dX0_readOperand_108 : decode cX0_readOperand 108 = .ok (.getfield 15, 3) := by decide +kernel
theorem dX0_readOperand_111 : decode cX0_readOperand 111 = .ok (.dup, 1) := by decide +kernel
theorem dX0_readOperand_112 : decode cX0_readOperand 112 = .ok (.getfield 58, 3) := by decide +kernel
theorem dX0_readOperand_115 : decode cX0_readOperand 115 = .ok (.iconst 1, 1) := by decide +kernel
theorem dX0_readOperand_116 : decode cX0_readOperand 116 = .ok (.iadd, 1) := by decide +kernel
theorem dX0_readOperand_117 : decode cX0_readOperand 117 = .ok (.putfield 58, 3) := by decide +kernel
theorem dX0_readOperand_120 : decode cX0_readOperand 120 = .ok (.return_, 1) := by decide +kernel
theorem dX0_readPart_0 : decode cX0_readPart 0 = .ok (.aload_n 0, 1) := by decide +kernel
theorem dX0_readPart_1 : decode cX0_readPart 1 = .ok (.getfield 186, 3) := by decide +kernel
theorem dX0_readPart_4 : decode cX0_readPart 4 = .ok (.getfield 203, 3) := by decide +kernel
theorem dX0_readPart_7 : decode cX0_readPart 7 = .ok (.bipush 12, 2) := by decide +kernel
theorem dX0_readPart_9 : decode cX0_readPart 9 = .ok (.if_icmp .ne 7, 3) := by decide +kernel
theorem dX0_readPart_12 : decode cX0_readPart 12 = .ok (.iconst 1, 1) := by decide +kernel
theorem dX0_readPart_13 : decode cX0_readPart 13 = .ok (.goto 4, 3) := by decide +kernel
theorem dX0_readPart_16 : decode cX0_readPart 16 = .ok (.iconst 0, 1) := by decide +kernel
theorem dX0_readPart_17 : decode cX0_readPart 17 = .ok (.istore_n 1, 1) := by decide +kernel
theorem dX0_readPart_18 : decode cX0_readPart 18 = .ok (.aload_n 0, 1) := by decide +kernel
theorem dX0_readPart_19 : decode cX0_readPart 19 = .ok (.getfield 15, 3) := by decide +kernel
theorem dX0_readPart_22 : decode cX0_readPart 22 = .ok (.invokevirtual 117, 3) := by decide +kernel
theorem dX0_readPart_25 : decode cX0_readPart 25 = .ok (.ifCond .eq 70, 3) := by decide +kernel
theorem dX0_readPart_28 : decode cX0_readPart 28 = .ok (.aload_n 0, 1) := by decide +kernel
theorem dX0_readPart_29 : decode cX0_readPart 29 = .ok (.getfield 186, 3) := by decide +kernel
theorem dX0_readPart_32 : decode cX0_readPart 32 = .ok (.aload_n 0, 1) := by decide +kernel
theorem dX0_readPart_33 : decode cX0_readPart 33 = .ok (.getfield 25, 3) := by decide +kernel
theorem dX0_readPart_36 : decode cX0_readPart 36 = .ok (.aload_n 0, 1) := by decide +kernel
theorem dX0_readPart_37 : decode cX0_readPart 37 = .ok (.getfield 15, 3) := by decide +kernel
theorem dX0_readPart_40 : decode cX0_readPart 40 = .ok (.getfield 58, 3) := by decide +kernel
theorem dX0_readPart_43 : decode cX0_readPart 43 = .ok (.invokevirtual 206, 3) := by decide +kernel
theorem dX0_readPart_46 : decode cX0_readPart 46 = .ok (.ifCond .lt 15, 3) := by decide +kernel
theorem dX0_readPart_49 : decode cX0_readPart 49 = .ok (.aload_n 0, 1) := by decide +kernel
theorem dX0_readPart_50 : decode cX0_readPart 50 = .ok (.getfield 15, 3) := by decide +kernel
theorem dX0_readPart_53 : decode cX0_readPart 53 = .ok (.iconst 2, 1) := by decide +kernel
theorem dX0_readPart_54 : decode cX0_readPart 54 = .ok (.invokevirtual 67, 3) := by decide +kernel
theorem dX0_readPart_57 : decode cX0_readPart 57 = .ok (.pop, 1) := by decide +kernel
theorem dX0_readPart_58 : decode cX0_readPart 58 = .ok (.goto 115, 3) := by decide +kernel
theorem dX0_readPart_61 : decode cX0_readPart 61 = .ok (.iload_n 1, 1) := by decide +kernel
theorem dX0_readPart_62 : decode cX0_readPart 62 = .ok (.ifCond .ne 14, 3) := by decide +kernel
theorem dX0_readPart_65 : decode cX0_readPart 65 = .ok (.aload_n 0, 1) := by decide +kernel
theorem dX0_readPart_66 : decode cX0_readPart 66 = .ok (.getfield 186, 3) := by decide +kernel
theorem dX0_readPart_69 : decode cX0_readPart 69 = .ok (.getfield 209, 3) := by decide +kernel
theorem dX0_readPart_72 : decode cX0_readPart 72 = .ok (.iconst 5, 1) := by decide +kernel
theorem dX0_readPart_73 : decode cX0_readPart 73 = .ok (.if_icmp .ne 15, 3) := by decide +kernel
theorem dX0_readPart_76 : decode cX0_readPart 76 = .ok (.aload_n 0, 1) := by decide +kernel
theorem dX0_readPart_77 : decode cX0_readPart 77 = .ok (.getfield 15, 3) := by decide +kernel
theorem dX0_readPart_80 : decode cX0_readPart 80 = .ok (.iconst 3, 1) := by decide +kernel
theorem dX0_readPart_81 : decode cX0_readPart 81 = .ok (.invokevirtual 67, 3) := by decide +kernel
theorem dX0_readPart_84 : decode cX0_readPart 84 = .ok (.pop, 1) := by decide +kernel
theorem dX0_readPart_85 : decode cX0_readPart 85 = .ok (.goto 88, 3) := by decide +kernel
theorem dX0_readPart_88 : decode cX0_readPart 88 = .ok (.aload_n 0, 1) := by decide +kernel
theorem dX0_readPart_89 : decode cX0_readPart 89 = .ok (.invokevirtual 212, 3) := by decide +kernel
theorem dX0_readPart_92 : decode cX0_readPart 92 = .ok (.goto 81, 3) := by decide +kernel
theorem dX0_readPart_95 : decode cX0_readPart 95 = .ok (.aload_n 0, 1) := by decide +kernel
theorem dX0_readPart_96 : decode cX0_readPart 96 = .ok (.aload_n 0, 1) := by decide +kernel
theorem dX0_readPart_97 : decode cX0_readPart 97 = .ok (.getfield 15, 3) := by decide +kernel
theorem dX0_readPart_100 : decode cX0_readPart 100 = .ok (.getfield 58, 3) := by decide +kernel
theorem dX0_readPart_103 : decode cX0_readPart 103 = .ok (.invokevirtual 215, 3) := by decide +kernel
theorem dX0_readPart_106 : decode cX0_readPart 106 = .ok (.ifCond .ne 15, 3) := by decide +kernel
theorem dX0_readPart_109 : decode cX0_readPart 109 = .ok (.aload_n 0, 1) := by decide +kernel
theorem dX0_readPart_110 : decode cX0_readPart 110 = .ok (.getfield 15, 3) := by decide +kernel
theorem dX0_readPart_113 : decode cX0_readPart 113 = .ok (.iconst 1, 1) := by decide +kernel
theorem dX0_readPart_114 : decode cX0_readPart 114 = .ok (.invokevirtual 67, 3) := by decide +kernel
theorem dX0_readPart_117 : decode cX0_readPart 117 = .ok (.pop, 1) := by decide +kernel
theorem dX0_readPart_118 : decode cX0_readPart 118 = .ok (.goto 55, 3) := by decide +kernel
theorem dX0_readPart_121 : decode cX0_readPart 121 = .ok (.iload_n 1, 1) := by decide +kernel
theorem dX0_readPart_122 : decode cX0_readPart 122 = .ok (.ifCond .eq 15, 3) := by decide +kernel
theorem dX0_readPart_125 : decode cX0_readPart 125 = .ok (.aload_n 0, 1) := by decide +kernel
theorem dX0_readPart_126 : decode cX0_readPart 126 = .ok (.getfield 15, 3) := by decide +kernel
theorem dX0_readPart_129 : decode cX0_readPart 129 = .ok (.iconst 3, 1) := by decide +kernel
theorem dX0_readPart_130 : decode cX0_readPart 130 = .ok (.invokevirtual 67, 3) := by decide +kernel
theorem dX0_readPart_133 : decode cX0_readPart 133 = .ok (.pop, 1) := by decide +kernel
theorem dX0_readPart_134 : decode cX0_readPart 134 = .ok (.goto 39, 3) := by decide +kernel
theorem dX0_readPart_137 : decode cX0_readPart 137 = .ok (.aload_n 0, 1) := by decide +kernel
theorem dX0_readPart_138 : decode cX0_readPart 138 = .ok (.getfield 186, 3) := by decide +kernel
theorem dX0_readPart_141 : decode cX0_readPart 141 = .ok (.aload_n 0, 1) := by decide +kernel
theorem dX0_readPart_142 : decode cX0_readPart 142 = .ok (.getfield 25, 3) := by decide +kernel
theorem dX0_readPart_145 : decode cX0_readPart 145 = .ok (.getfield 218, 3) := by decide +kernel
theorem dX0_readPart_148 : decode cX0_readPart 148 = .ok (.aload_n 0, 1) := by decide +kernel
theorem dX0_readPart_149 : decode cX0_readPart 149 = .ok (.getfield 15, 3) := by decide +kernel
theorem dX0_readPart_152 : decode cX0_readPart 152 = .ok (.getfield 58, 3) := by decide +kernel
theorem dX0_readPart_155 : decode cX0_readPart 155 = .ok (.laload, 1) := by decide +kernel
theorem dX0_readPart_156 : decode cX0_readPart 156 = .ok (.l2i, 1) := by decide +kernel
theorem dX0_readPart_157 : decode cX0_readPart 157 = .ok (.invokevirtual 221, 3) := by decide +kernel
theorem dX0_readPart_160 : decode cX0_readPart 160 = .ok (.aload_n 0, 1) := by decide +kernel
theorem dX0_readPart_161 : decode cX0_readPart 161 = .ok (.getfield 15, 3) := by decide +kernel
theorem dX0_readPart_164 : decode cX0_readPart 164 = .ok (.dup, 1) := by decide +kernel
theorem dX0_readPart_165 : decode cX0_readPart 165 = .ok (.getfield 58, 3) := by decide +kernel
theorem dX0_readPart_168 : decode cX0_readPart 168 = .ok (.iconst 1, 1) := by decide +kernel
theorem dX0_readPart_169 : decode cX0_readPart 169 = .ok (.iadd, 1) := by decide +kernel
theorem dX0_readPart_170 : decode cX0_readPart 170 = .ok (.putfield 58, 3) := by decide +kernel
theorem dX0_readPart_173 : decode cX0_readPart 173 = .ok (.return_, 1) := by decide +kernel
theorem dX1_init_0 : decode cX1_init 0 = .ok (.aload_n 0, 1) := by decide +kernel
theorem dX1_init_1 : decode cX1_init 1 = .ok (.invokespecial 3, 3) := by decide +kernel
theorem dX1_init_4 : decode cX1_init 4 = .ok (.aload_n 0, 1) := by decide +kernel
theorem dX1_init_5 : decode cX1_init 5 = .ok (.bipush 12, 2) := by decide +kernel
theorem dX1_init_7 : decode cX1_init 7 = .ok (.newarray .int, 2) := by decide +kernel
theorem dX1_init_9 : decode cX1_init 9 = .ok (.putfield 9, 3) := by decide +kernel
theorem dX1_init_12 : decode cX1_init 12 = .ok (.aload_n 0, 1) := by decide +kernel
theorem dX1_init_13 : decode cX1_init 13 = .ok (.iconst 5, 1) := by decide +kernel
theorem dX1_init_14 : decode cX1_init 14 = .ok (.anewarray 15, 3) := by decide +kernel
theorem dX1_init_17 : decode cX1_init 17 = .ok (.putfield 17, 3) := by decide +kernel
theorem dX1_init_20 : decode cX1_init 20 = .ok (.aload_n 0, 1) := by decide +kernel
theorem dX1_init_21 : decode cX1_init 21 = .ok (.iconst 5, 1) := by decide +kernel
theorem dX1_init_22 : decode cX1_init 22 = .ok (.anewarray 21, 3) := by decide +kernel
theorem dX1_init_25 : decode cX1_init 25 = .ok (.putfield 23, 3) := by decide +kernel
theorem dX1_init_28 : decode cX1_init 28 = .ok (.aload_n 0, 1) := by decide +kernel
theorem dX1_init_29 : decode cX1_init 29 = .ok (.iconst 4, 1) := by decide +kernel
theorem dX1_init_30 : decode cX1_init 30 = .ok (.newarray .long, 2) := by decide +kernel
theorem dX1_init_32 : decode cX1_init 32 = .ok (.putfield 27, 3) := by decide +kernel
theorem dX1_init_35 : decode cX1_init 35 = .ok (.aload_n 0, 1) := by decide +kernel
theorem dX1_init_36 : decode cX1_init 36 = .ok (.iconst 4, 1) := by decide +kernel
theorem dX1_init_37 : decode cX1_init 37 = .ok (.newarray .long, 2) := by decide +kernel
theorem dX1_init_39 : decode cX1_init 39 = .ok (.putfield 31, 3) := by decide +kernel
theorem dX1_init_42 : decode cX1_init 42 = .ok (.aload_n 0, 1) := by decide +kernel
theorem dX1_init_43 : decode cX1_init 43 = .ok (.sipush 128, 3) := by decide +kernel
theorem dX1_init_46 : decode cX1_init 46 = .ok (.newarray .int, 2) := by decide +kernel
theorem dX1_init_48 : decode cX1_init 48 = .ok (.putfield 34, 3) := by decide +kernel
theorem dX1_init_51 : decode cX1_init 51 = .ok (.aload_n 0, 1) := by decide +kernel
theorem dX1_init_52 : decode cX1_init 52 = .ok (.aload_n 1, 1) := by decide +kernel
theorem dX1_init_53 : decode cX1_init 53 = .ok (.putfield 37, 3) := by decide +kernel
theorem dX1_init_56 : decode cX1_init 56 = .ok (.return_, 1) := by decide +kernel
theorem dX0_readInstruction_0 : decode cX0_readInstruction 0 = .ok (.aload_n 0, 1) := by decide +kernel
theorem dX0_readInstruction_1 : decode cX0_readInstruction 1 = .ok (.getfield 15, 3) := by decide +kernel
theorem dX0_readInstruction_4 : decode cX0_readInstruction 4 = .ok (.invokevirtual 117, 3) := by decide +kernel
theorem dX0_readInstruction_7 : decode cX0_readInstruction 7 = .ok (.ifCond .ne 13, 3) := by decide +kernel
theorem dX0_readInstruction_10 : decode cX0_readInstruction 10 = .ok (.aload_n 0, 1) := by decide +kernel
theorem dX0_readInstruction_11 : decode cX0_readInstruction 11 = .ok (.getfield 15, 3) := by decide +kernel
theorem dX0_readInstruction_14 : decode cX0_readInstruction 14 = .ok (.iconst 1, 1) := by decide +kernel
theorem dX0_readInstruction_15 : decode cX0_readInstruction 15 = .ok (.invokevirtual 67, 3) := by decide +kernel
theorem dX0_readInstruction_18 : decode cX0_readInstruction 18 = .ok (.pop, 1) := by decide +kernel
theorem dX0_readInstruction_19 : decode cX0_readInstruction 19 = .ok (.return_, 1) := by decide +kernel
theorem dX0_readInstruction_20 : decode cX0_readInstruction 20 = .ok (.aload_n 0, 1) := by decide +kernel
theorem dX0_readInstruction_21 : decode cX0_readInstruction 21 = .ok (.getfield 26, 3) := by decide +kernel
theorem dX0_readInstruction_24 : decode cX0_readInstruction 24 = .ok (.getfield 178, 3) := by decide +kernel
theorem dX0_readInstruction_27 : decode cX0_readInstruction 27 = .ok (.bipush 96, 2) := by decide +kernel
theorem dX0_readInstruction_29 : decode cX0_readInstruction 29 = .ok (.if_icmp .ne 13, 3) := by decide +kernel
theorem dX0_readInstruction_32 : decode cX0_readInstruction 32 = .ok (.aload_n 0, 1) := by decide +kernel
theorem dX0_readInstruction_33 : decode cX0_readInstruction 33 = .ok (.getfield 15, 3) := by decide +kernel
theorem dX0_readInstruction_36 : decode cX0_readInstruction 36 = .ok (.iconst 3, 1) := by decide +kernel
theorem dX0_readInstruction_37 : decode cX0_readInstruction 37 = .ok (.invokevirtual 67, 3) := by decide +kernel
theorem dX0_readInstruction_40 : decode cX0_readInstruction 40 = .ok (.pop, 1) := by decide +kernel
theorem dX0_readInstruction_41 : decode cX0_readInstruction 41 = .ok (.return_, 1) := by decide +kernel
theorem dX0_readInstruction_42 : decode cX0_readInstruction 42 = .ok (.aload_n 0, 1) := by decide +kernel
theorem dX0_readInstruction_43 : decode cX0_readInstruction 43 = .ok (.new 181, 3) := by decide +kernel
theorem dX0_readInstruction_46 : decode cX0_readInstruction 46 = .ok (.dup, 1) := by decide +kernel
theorem dX0_readInstruction_47 : decode cX0_readInstruction 47 = .ok (.new 129, 3) := by decide +kernel
theorem dX0_readInstruction_50 : decode cX0_readInstruction 50 = .ok (.dup, 1) := by decide +kernel
theorem dX0_readInstruction_51 : decode cX0_readInstruction 51 = .ok (.aload_n 0, 1) := by decide +kernel
theorem dX0_readInstruction_52 : decode cX0_readInstruction 52 = .ok (.getfield 25, 3) := by decide +kernel
theorem dX0_readInstruction_55 : decode cX0_readInstruction 55 = .ok (.aload_n 0, 1) := by decide +kernel
theorem dX0_readInstruction_56 : decode cX0_readInstruction 56 = .ok (.getfield 15, 3) := by decide +kernel
theorem dX0_readInstruction_59 : decode cX0_readInstruction 59 = .ok (.getfield 58, 3) := by decide +kernel
theorem dX0_readInstruction_62 : decode cX0_readInstruction 62 = .ok (.invokespecial 131, 3) := by decide +kernel
theorem dX0_readInstruction_65 : decode cX0_readInstruction 65 = .ok (.invokespecial 183, 3) := by decide +kernel
theorem dX0_readInstruction_68 : decode cX0_readInstruction 68 = .ok (.putfield 186, 3) := by decide +kernel
theorem dX0_readInstruction_71 : decode cX0_readInstruction 71 = .ok (.aload_n 0, 1) := by decide +kernel
theorem dX0_readInstruction_72 : decode cX0_readInstruction 72 = .ok (.getfield 15, 3) := by decide +kernel
theorem dX0_readInstruction_75 : decode cX0_readInstruction 75 = .ok (.dup, 1) := by decide +kernel
theorem dX0_readInstruction_76 : decode cX0_readInstruction 76 = .ok (.getfield 58, 3) := by decide +kernel
theorem dX0_readInstruction_79 : decode cX0_readInstruction 79 = .ok (.iconst 1, 1) := by decide +kernel
theorem dX0_readInstruction_80 : decode cX0_readInstruction 80 = .ok (.iadd, 1) := by decide +kernel
theorem dX0_readInstruction_81 : decode cX0_readInstruction 81 = .ok (.putfield 58, 3) := by decide +kernel
theorem dX0_readInstruction_84 : decode cX0_readInstruction 84 = .ok (.iconst 0, 1) := by decide +kernel
theorem dX0_readInstruction_85 : decode cX0_readInstruction 85 = .ok (.istore_n 1, 1) := by decide +kernel
theorem dX0_readInstruction_86 : decode cX0_readInstruction 86 = .ok (.iload_n 1, 1) := by decide +kernel
theorem dX0_readInstruction_87 : decode cX0_readInstruction 87 = .ok (.aload_n 0, 1) := by decide +kernel
theorem dX0_readInstruction_88 : decode cX0_readInstruction 88 = .ok (.getfield 25, 3) := by decide +kernel
theorem dX0_readInstruction_91 : decode cX0_readInstruction 91 = .ok (.getfield 42, 3) := by decide +kernel
theorem dX0_readInstruction_94 : decode cX0_readInstruction 94 = .ok (.if_icmp .gt 35, 3) := by decide +kernel
theorem dX0_readInstruction_97 : decode cX0_readInstruction 97 = .ok (.aload_n 0, 1) := by decide +kernel
theorem dX0_readInstruction_98 : decode cX0_readInstruction 98 = .ok (.getfield 15, 3) := by decide +kernel
theorem dX0_readInstruction_101 : decode cX0_readInstruction 101 = .ok (.invokevirtual 55, 3) := by decide +kernel
theorem dX0_readInstruction_104 : decode cX0_readInstruction 104 = .ok (.ifCond .ne 25, 3) := by decide +kernel
theorem dX0_readInstruction_107 : decode cX0_readInstruction 107 = .ok (.aload_n 0, 1) := by decide +kernel
theorem dX0_readInstruction_108 : decode cX0_readInstruction 108 = .ok (.getfield 15, 3) := by decide +kernel
theorem dX0_readInstruction_111 : decode cX0_readInstruction 111 = .ok (.bipush 61, 2) := by decide +kernel
theorem dX0_readInstruction_113 : decode cX0_readInstruction 113 = .ok (.invokevirtual 190, 3) := by decide +kernel
theorem dX0_readInstruction_116 : decode cX0_readInstruction 116 = .ok (.ifCond .ne 13, 3) := by decide +kernel
theorem dX0_readInstruction_119 : decode cX0_readInstruction 119 = .ok (.aload_n 0, 1) := by decide +kernel
theorem dX0_readInstruction_120 : decode cX0_readInstruction 120 = .ok (.invokevirtual 193, 3) := by decide +kernel
theorem dX0_readInstruction_123 : decode cX0_readInstruction 123 = .ok (.iinc 1 1, 3) := by decide +kernel
theorem dX0_readInstruction_126 : decode cX0_readInstruction 126 = .ok (.goto (-40), 3) := by decide +kernel
theorem dX0_readInstruction_129 : decode cX0_readInstruction 129 = .ok (.aload_n 0, 1) := by decide +kernel
theorem dX0_readInstruction_130 : decode cX0_readInstruction 130 = .ok (.getfield 15, 3) := by decide +kernel
theorem dX0_readInstruction_133 : decode cX0_readInstruction 133 = .ok (.invokevirtual 55, 3) := by decide +kernel
theorem dX0_readInstruction_136 : decode cX0_readInstruction 136 = .ok (.ifCond .eq 4, 3) := by decide +kernel
theorem dX0_readInstruction_139 : decode cX0_readInstruction 139 = .ok (.return_, 1) := by decide +kernel
theorem dX0_readInstruction_140 : decode cX0_readInstruction 140 = .ok (.aload_n 0, 1) := by decide +kernel
theorem dX0_readInstruction_141 : decode cX0_readInstruction 141 = .ok (.getfield 15, 3) := by decide +kernel
theorem dX0_readInstruction_144 : decode cX0_readInstruction 144 = .ok (.dup, 1) := by decide +kernel
theorem dX0_readInstruction_145 : decode cX0_readInstruction 145 = .ok (.getfield 58, 3) := by decide +kernel
theorem dX0_readInstruction_148 : decode cX0_readInstruction 148 = .ok (.iconst 1, 1) := by decide +kernel
theorem dX0_readInstruction_149 : decode cX0_readInstruction 149 = .ok (.iadd, 1) := by decide +kernel
theorem dX0_readInstruction_150 : decode cX0_readInstruction 150 = .ok (.putfield 58, 3) := by decide +kernel
theorem dX0_readInstruction_153 : decode cX0_readInstruction 153 = .ok (.aload_n 0, 1) := by decide +kernel
theorem dX0_readInstruction_154 : decode cX0_readInstruction 154 = .ok (.invokevirtual 196, 3) := by decide +kernel
theorem dX0_readInstruction_157 : decode cX0_readInstruction 157 = .ok (.aload_n 0, 1) := by decide +kernel
theorem dX0_readInstruction_158 : decode cX0_readInstruction 158 = .ok (.getfield 15, 3) := by decide +kernel
theorem dX0_readInstruction_161 : decode cX0_readInstruction 161 = .ok (.invokevirtual 55, 3) := by decide +kernel
theorem dX0_readInstruction_164 : decode cX0_readInstruction 164 = .ok (.ifCond .ne 14, 3) := by decide +kernel
theorem dX0_readInstruction_167 : decode cX0_readInstruction 167 = .ok (.aload_n 0, 1) := by decide +kernel
theorem dX0_readInstruction_168 : decode cX0_readInstruction 168 = .ok (.getfield 26, 3) := by decide +kernel
theorem dX0_readInstruction_171 : decode cX0_readInstruction 171 = .ok (.aload_n 0, 1) := by decide +kernel
theorem dX0_readInstruction_172 : decode cX0_readInstruction 172 = .ok (.getfield 186, 3) := by decide +kernel
theorem dX0_readInstruction_175 : decode cX0_readInstruction 175 = .ok (.invokevirtual 199, 3) := by decide +kernel
theorem dX0_readInstruction_178 : decode cX0_readInstruction 178 = .ok (.return_, 1) := by decide +kernel
theorem dJ3_checkIndex_8e157_0 : decode cJ3_checkIndex_8e157 0 = .ok (.iload_n 0, 1) := by decide +kernel
theorem dJ3_checkIndex_8e157_1 : decode cJ3_checkIndex_8e157 1 = .ok (.ifCond .lt 8, 3) := by decide +kernel
theorem dJ3_checkIndex_8e157_4 : decode cJ3_checkIndex_8e157 4 = .ok (.iload_n 0, 1) := by decide +kernel
theorem dJ3_checkIndex_8e157_5 : decode cJ3_checkIndex_8e157 5 = .ok (.iload_n 1, 1) := by decide +kernel
theorem dJ3_checkIndex_8e157_6 : decode cJ3_checkIndex_8e157 6 = .ok (.if_icmp .lt 10, 3) := by decide +kernel
theorem dJ3_checkIndex_8e157_9 : decode cJ3_checkIndex_8e157 9 = .ok (.aload_n 2, 1) := by decide +kernel
theorem dJ3_checkIndex_8e157_10 : decode cJ3_checkIndex_8e157 10 = .ok (.iload_n 0, 1) := by decide +kernel
theorem dJ3_checkIndex_8e157_11 : decode cJ3_checkIndex_8e157 11 = .ok (.iload_n 1, 1) := by decide +kernel
theorem dJ3_checkIndex_8e157_12 : decode cJ3_checkIndex_8e157 12 = .ok (.invokestatic 95, 3) := by decide +kernel
theorem dJ3_checkIndex_8e157_15 : decode cJ3_checkIndex_8e157 15 = .ok (.athrow, 1) := by decide +kernel
theorem dJ3_checkIndex_8e157_16 : decode cJ3_checkIndex_8e157 16 = .ok (.iload_n 0, 1) := by decide +kernel
theorem dJ3_checkIndex_8e157_17 : decode cJ3_checkIndex_8e157 17 = .ok (.ireturn, 1) := by decide +kernel
theorem dJ0_checkIndex_df160_0 : decode cJ0_checkIndex_df160 0 = .ok (.iload_n 0, 1) := by decide +kernel
theorem dJ0_checkIndex_df160_1 : decode cJ0_checkIndex_df160 1 = .ok (.iload_n 1, 1) := by decide +kernel
theorem dJ0_checkIndex_df160_2 : decode cJ0_checkIndex_df160 2 = .ok (.getstatic 1053, 3) := by decide +kernel
theorem dJ0_checkIndex_df160_5 : decode cJ0_checkIndex_df160 5 = .ok (.invokestatic 1059, 3) := by decide +kernel
theorem dJ0_checkIndex_df160_8 : decode cJ0_checkIndex_df160 8 = .ok (.pop, 1) := by decide +kernel
theorem dJ0_checkIndex_df160_9 : decode cJ0_checkIndex_df160 9 = .ok (.return_, 1) := by decide +kernel
theorem dJ1_charAt_3b067_0 : decode cJ1_charAt_3b067 0 = .ok (.iload_n 1, 1) := by decide +kernel
theorem dJ1_charAt_3b067_1 : decode cJ1_charAt_3b067 1 = .ok (.aload_n 0, 1) := by decide +kernel
theorem dJ1_charAt_3b067_2 : decode cJ1_charAt_3b067 2 = .ok (.arraylength, 1) := by decide +kernel
theorem dJ1_charAt_3b067_3 : decode cJ1_charAt_3b067 3 = .ok (.invokestatic 9, 3) := by decide +kernel
theorem dJ1_charAt_3b067_6 : decode cJ1_charAt_3b067 6 = .ok (.aload_n 0, 1) := by decide +kernel
theorem dJ1_charAt_3b067_7 : decode cJ1_charAt_3b067 7 = .ok (.iload_n 1, 1) := by decide +kernel
theorem dJ1_charAt_3b067_8 : decode cJ1_charAt_3b067 8 = .ok (.baload, 1) := by decide +kernel
theorem dJ1_charAt_3b067_9 : decode cJ1_charAt_3b067 9 = .ok (.sipush 255, 3) := by decide +kernel
theorem dJ1_charAt_3b067_12 : decode cJ1_charAt_3b067 12 = .ok (.iand, 1) := by decide +kernel
theorem dJ1_charAt_3b067_13 : decode cJ1_charAt_3b067 13 = .ok (.i2c, 1) := by decide +kernel
theorem dJ1_charAt_3b067_14 : decode cJ1_charAt_3b067 14 = .ok (.ireturn, 1) := by decide +kernel
theorem dJ0_charAt_5068e_0 : decode cJ0_charAt_5068e 0 = .ok (.aload_n 0, 1) := by decide +kernel
theorem dJ0_charAt_5068e_1 : decode cJ0_charAt_5068e 1 = .ok (.invokevirtual 492, 3) := by decide +kernel
theorem dJ0_charAt_5068e_4 : decode cJ0_charAt_5068e 4 = .ok (.ifCond .eq 12, 3) := by decide +kernel
theorem dJ0_charAt_5068e_7 : decode cJ0_charAt_5068e 7 = .ok (.aload_n 0, 1) := by decide +kernel
theorem dJ0_charAt_5068e_8 : decode cJ0_charAt_5068e 8 = .ok (.getfield 9, 3) := by decide +kernel
theorem dJ0_charAt_5068e_11 : decode cJ0_charAt_5068e 11 = .ok (.iload_n 1, 1) := by decide +kernel
theorem dJ0_charAt_5068e_12 : decode cJ0_charAt_5068e 12 = .ok (.invokestatic 495, 3) := by decide +kernel
theorem dJ0_charAt_5068e_15 : decode cJ0_charAt_5068e 15 = .ok (.ireturn, 1) := by decide +kernel
theorem dJ0_charAt_5068e_16 : decode cJ0_charAt_5068e 16 = .ok (.aload_n 0, 1) := by decide +kernel
theorem dJ0_charAt_5068e_17 : decode cJ0_charAt_5068e 17 = .ok (.getfield 9, 3) := by decide +kernel
theorem dJ0_charAt_5068e_20 : decode cJ0_charAt_5068e 20 = .ok (.iload_n 1, 1) := by decide +kernel
theorem dJ0_charAt_5068e_21 : decode cJ0_charAt_5068e 21 = .ok (.invokestatic 498, 3) := by decide +kernel
theorem dJ0_charAt_5068e_24 : decode cJ0_charAt_5068e 24 = .ok (.ireturn, 1) := by decide +kernel
theorem dX10_says_0 : decode cX10_says 0 = .ok (.aload_n 0, 1) := by decide +kernel
theorem dX10_says_1 : decode cX10_says 1 = .ok (.getfield 15, 3) := by decide +kernel
theorem dX10_says_4 : decode cX10_says 4 = .ok (.iload_n 1, 1) := by decide +kernel
theorem dX10_says_5 : decode cX10_says 5 = .ok (.baload, 1) := by decide +kernel
theorem dX10_says_6 : decode cX10_says 6 = .ok (.iconst 1, 1) := by decide +kernel
theorem dX10_says_7 : decode cX10_says 7 = .ok (.if_icmp .ne 23, 3) := by decide +kernel
theorem dX10_says_10 : decode cX10_says 10 = .ok (.aload_n 0, 1) := by decide +kernel
theorem dX10_says_11 : decode cX10_says 11 = .ok (.getfield 22, 3) := by decide +kernel
theorem dX10_says_14 : decode cX10_says 14 = .ok (.iload_n 1, 1) := by decide +kernel
theorem dX10_says_15 : decode cX10_says 15 = .ok (.iaload, 1) := by decide +kernel
theorem dX10_says_16 : decode cX10_says 16 = .ok (.aload_n 0, 1) := by decide +kernel
theorem dX10_says_17 : decode cX10_says 17 = .ok (.getfield 18, 3) := by decide +kernel
theorem dX10_says_20 : decode cX10_says 20 = .ok (.iload_n 1, 1) := by decide +kernel
theorem dX10_says_21 : decode cX10_says 21 = .ok (.iaload, 1) := by decide +kernel
theorem dX10_says_22 : decode cX10_says 22 = .ok (.isub, 1) := by decide +kernel
theorem dX10_says_23 : decode cX10_says 23 = .ok (.aload_n 2, 1) := by decide +kernel
theorem dX10_says_24 : decode cX10_says 24 = .ok (.invokevirtual 89, 3) := by decide +kernel
theorem dX10_says_27 : decode cX10_says 27 = .ok (.if_icmp .eq 5, 3) := by decide +kernel
theorem dX10_says_30 : decode cX10_says 30 = .ok (.iconst 0, 1) := by decide +kernel
theorem dX10_says_31 : decode cX10_says 31 = .ok (.ireturn, 1) := by decide +kernel
theorem dX10_says_32 : decode cX10_says 32 = .ok (.iconst 0, 1) := by decide +kernel
theorem dX10_says_33 : decode cX10_says 33 = .ok (.istore_n 3, 1) := by decide +kernel
theorem dX10_says_34 : decode cX10_says 34 = .ok (.iload_n 3, 1) := by decide +kernel
theorem dX10_says_35 : decode cX10_says 35 = .ok (.aload_n 2, 1) := by decide +kernel
theorem dX10_says_36 : decode cX10_says 36 = .ok (.invokevirtual 89, 3) := by decide +kernel
theorem dX10_says_39 : decode cX10_says 39 = .ok (.if_icmp .ge 32, 3) := by decide +kernel
theorem dX10_says_42 : decode cX10_says 42 = .ok (.aload_n 0, 1) := by decide +kernel
theorem dX10_says_43 : decode cX10_says 43 = .ok (.getfield 9, 3) := by decide +kernel
theorem dX10_says_46 : decode cX10_says 46 = .ok (.aload_n 0, 1) := by decide +kernel
theorem dX10_says_47 : decode cX10_says 47 = .ok (.getfield 18, 3) := by decide +kernel
theorem dX10_says_50 : decode cX10_says 50 = .ok (.iload_n 1, 1) := by decide +kernel
theorem dX10_says_51 : decode cX10_says 51 = .ok (.iaload, 1) := by decide +kernel
theorem dX10_says_52 : decode cX10_says 52 = .ok (.iload_n 3, 1) := by decide +kernel
theorem dX10_says_53 : decode cX10_says 53 = .ok (.iadd, 1) := by decide +kernel
theorem dX10_says_54 : decode cX10_says 54 = .ok (.baload, 1) := by decide +kernel
theorem dX10_says_55 : decode cX10_says 55 = .ok (.aload_n 2, 1) := by decide +kernel
theorem dX10_says_56 : decode cX10_says 56 = .ok (.iload_n 3, 1) := by decide +kernel
theorem dX10_says_57 : decode cX10_says 57 = .ok (.invokevirtual 93, 3) := by decide +kernel
theorem dX10_says_60 : decode cX10_says 60 = .ok (.if_icmp .eq 5, 3) := by decide +kernel
theorem dX10_says_63 : decode cX10_says 63 = .ok (.iconst 0, 1) := by decide +kernel
theorem dX10_says_64 : decode cX10_says 64 = .ok (.ireturn, 1) := by decide +kernel
theorem dX10_says_65 : decode cX10_says 65 = .ok (.iinc 3 1, 3) := by decide +kernel
theorem dX10_says_68 : decode cX10_says 68 = .ok (.goto (-34), 3) := by decide +kernel
theorem dX10_says_71 : decode cX10_says 71 = .ok (.iconst 1, 1) := by decide +kernel
theorem dX10_says_72 : decode cX10_says 72 = .ok (.ireturn, 1) := by decide +kernel
theorem dX0_sortOf_0 : decode cX0_sortOf 0 = .ok (.aload_n 0, 1) := by decide +kernel
theorem dX0_sortOf_1 : decode cX0_sortOf 1 = .ok (.getfield 25, 3) := by decide +kernel
theorem dX0_sortOf_4 : decode cX0_sortOf 4 = .ok (.iload_n 1, 1) := by decide +kernel
theorem dX0_sortOf_5 : decode cX0_sortOf 5 = .ok (.ldc 107, 2) := by decide +kernel
theorem dX0_sortOf_7 : decode cX0_sortOf 7 = .ok (.invokevirtual 63, 3) := by decide +kernel
theorem dX0_sortOf_10 : decode cX0_sortOf 10 = .ok (.ifCond .eq 5, 3) := by decide +kernel
theorem dX0_sortOf_13 : decode cX0_sortOf 13 = .ok (.iconst 0, 1) := by decide +kernel
theorem dX0_sortOf_14 : decode cX0_sortOf 14 = .ok (.ireturn, 1) := by decide +kernel
theorem dX0_sortOf_15 : decode cX0_sortOf 15 = .ok (.aload_n 0, 1) := by decide +kernel
theorem dX0_sortOf_16 : decode cX0_sortOf 16 = .ok (.getfield 25, 3) := by decide +kernel
theorem dX0_sortOf_19 : decode cX0_sortOf 19 = .ok (.iload_n 1, 1) := by decide +kernel
theorem dX0_sortOf_20 : decode cX0_sortOf 20 = .ok (.ldc 109, 2) := by decide +kernel
theorem dX0_sortOf_22 : decode cX0_sortOf 22 = .ok (.invokevirtual 63, 3) := by decide +kernel
theorem dX0_sortOf_25 : decode cX0_sortOf 25 = .ok (.ifCond .eq 5, 3) := by decide +kernel
theorem dX0_sortOf_28 : decode cX0_sortOf 28 = .ok (.iconst 1, 1) := by decide +kernel
theorem dX0_sortOf_29 : decode cX0_sortOf 29 = .ok (.ireturn, 1) := by decide +kernel
theorem dX0_sortOf_30 : decode cX0_sortOf 30 = .ok (.aload_n 0, 1) := by decide +kernel
theorem dX0_sortOf_31 : decode cX0_sortOf 31 = .ok (.getfield 25, 3) := by decide +kernel
theorem dX0_sortOf_34 : decode cX0_sortOf 34 = .ok (.iload_n 1, 1) := by decide +kernel
theorem dX0_sortOf_35 : decode cX0_sortOf 35 = .ok (.ldc 111, 2) := by decide +kernel
theorem dX0_sortOf_37 : decode cX0_sortOf 37 = .ok (.invokevirtual 63, 3) := by decide +kernel
theorem dX0_sortOf_40 : decode cX0_sortOf 40 = .ok (.ifCond .eq 5, 3) := by decide +kernel
theorem dX0_sortOf_43 : decode cX0_sortOf 43 = .ok (.iconst 2, 1) := by decide +kernel
theorem dX0_sortOf_44 : decode cX0_sortOf 44 = .ok (.ireturn, 1) := by decide +kernel
theorem dX0_sortOf_45 : decode cX0_sortOf 45 = .ok (.aload_n 0, 1) := by decide +kernel
theorem dX0_sortOf_46 : decode cX0_sortOf 46 = .ok (.getfield 25, 3) := by decide +kernel
theorem dX0_sortOf_49 : decode cX0_sortOf 49 = .ok (.iload_n 1, 1) := by decide +kernel
theorem dX0_sortOf_50 : decode cX0_sortOf 50 = .ok (.ldc 113, 2) := by decide +kernel
theorem dX0_sortOf_52 : decode cX0_sortOf 52 = .ok (.invokevirtual 63, 3) := by decide +kernel
theorem dX0_sortOf_55 : decode cX0_sortOf 55 = .ok (.ifCond .eq 5, 3) := by decide +kernel
theorem dX0_sortOf_58 : decode cX0_sortOf 58 = .ok (.iconst 3, 1) := by decide +kernel
theorem dX0_sortOf_59 : decode cX0_sortOf 59 = .ok (.ireturn, 1) := by decide +kernel
theorem dX0_sortOf_60 : decode cX0_sortOf 60 = .ok (.aload_n 0, 1) := by decide +kernel
theorem dX0_sortOf_61 : decode cX0_sortOf 61 = .ok (.getfield 25, 3) := by decide +kernel
theorem dX0_sortOf_64 : decode cX0_sortOf 64 = .ok (.iload_n 1, 1) := by decide +kernel
theorem dX0_sortOf_65 : decode cX0_sortOf 65 = .ok (.ldc 115, 2) := by decide +kernel
theorem dX0_sortOf_67 : decode cX0_sortOf 67 = .ok (.invokevirtual 63, 3) := by decide +kernel
theorem dX0_sortOf_70 : decode cX0_sortOf 70 = .ok (.ifCond .eq 7, 3) := by decide +kernel
theorem dX0_sortOf_73 : decode cX0_sortOf 73 = .ok (.iconst 4, 1) := by decide +kernel
theorem dX0_sortOf_74 : decode cX0_sortOf 74 = .ok (.goto 4, 3) := by decide +kernel
theorem dX0_sortOf_77 : decode cX0_sortOf 77 = .ok (.iconst (-1), 1) := by decide +kernel
theorem dX0_sortOf_78 : decode cX0_sortOf 78 = .ok (.ireturn, 1) := by decide +kernel
theorem dX0_readStatement_0 : decode cX0_readStatement 0 = .ok (.aload_n 0, 1) := by decide +kernel
theorem dX0_readStatement_1 : decode cX0_readStatement 1 = .ok (.getfield 15, 3) := by decide +kernel
theorem dX0_readStatement_4 : decode cX0_readStatement 4 = .ok (.getfield 58, 3) := by decide +kernel
theorem dX0_readStatement_7 : decode cX0_readStatement 7 = .ok (.istore_n 1, 1) := by decide +kernel
theorem dX0_readStatement_8 : decode cX0_readStatement 8 = .ok (.aload_n 0, 1) := by decide +kernel
theorem dX0_readStatement_9 : decode cX0_readStatement 9 = .ok (.iload_n 1, 1) := by decide +kernel
theorem dX0_readStatement_10 : decode cX0_readStatement 10 = .ok (.invokevirtual 94, 3) := by decide +kernel
theorem dX0_readStatement_13 : decode cX0_readStatement 13 = .ok (.istore_n 2, 1) := by decide +kernel
theorem dX0_readStatement_14 : decode cX0_readStatement 14 = .ok (.iload_n 2, 1) := by decide +kernel
theorem dX0_readStatement_15 : decode cX0_readStatement 15 = .ok (.ifCond .ge 26, 3) := by decide +kernel
theorem dX0_readStatement_18 : decode cX0_readStatement 18 = .ok (.aload_n 0, 1) := by decide +kernel
theorem dX0_readStatement_19 : decode cX0_readStatement 19 = .ok (.getfield 25, 3) := by decide +kernel
theorem dX0_readStatement_22 : decode cX0_readStatement 22 = .ok (.iload_n 1, 1) := by decide +kernel
theorem dX0_readStatement_23 : decode cX0_readStatement 23 = .ok (.ldc 98, 2) := by decide +kernel
theorem dX0_readStatement_25 : decode cX0_readStatement 25 = .ok (.invokevirtual 63, 3) := by decide +kernel
theorem dX0_readStatement_28 : decode cX0_readStatement 28 = .ok (.ifCond .ne 13, 3) := by decide +kernel
theorem dX0_readStatement_31 : decode cX0_readStatement 31 = .ok (.aload_n 0, 1) := by decide +kernel
theorem dX0_readStatement_32 : decode cX0_readStatement 32 = .ok (.getfield 15, 3) := by decide +kernel
theorem dX0_readStatement_35 : decode cX0_readStatement 35 = .ok (.iconst 1, 1) := by decide +kernel
theorem dX0_readStatement_36 : decode cX0_readStatement 36 = .ok (.invokevirtual 67, 3) := by decide +kernel
theorem dX0_readStatement_39 : decode cX0_readStatement 39 = .ok (.pop, 1) := by decide +kernel
theorem dX0_readStatement_40 : decode cX0_readStatement 40 = .ok (.return_, 1) := by decide +kernel
theorem dX0_readStatement_41 : decode cX0_readStatement 41 = .ok (.aload_n 0, 1) := by decide +kernel
theorem dX0_readStatement_42 : decode cX0_readStatement 42 = .ok (.getfield 15, 3) := by decide +kernel
theorem dX0_readStatement_45 : decode cX0_readStatement 45 = .ok (.dup, 1) := by decide +kernel
theorem dX0_readStatement_46 : decode cX0_readStatement 46 = .ok (.getfield 58, 3) := by decide +kernel
theorem dX0_readStatement_49 : decode cX0_readStatement 49 = .ok (.iconst 1, 1) := by decide +kernel
theorem dX0_readStatement_50 : decode cX0_readStatement 50 = .ok (.iadd, 1) := by decide +kernel
theorem dX0_readStatement_51 : decode cX0_readStatement 51 = .ok (.putfield 58, 3) := by decide +kernel
theorem dX0_readStatement_54 : decode cX0_readStatement 54 = .ok (.iload_n 2, 1) := by decide +kernel
theorem dX0_readStatement_55 : decode cX0_readStatement 55 = .ok (.ifCond .ge 10, 3) := by decide +kernel
theorem dX0_readStatement_58 : decode cX0_readStatement 58 = .ok (.aload_n 0, 1) := by decide +kernel
theorem dX0_readStatement_59 : decode cX0_readStatement 59 = .ok (.invokevirtual 100, 3) := by decide +kernel
theorem dX0_readStatement_62 : decode cX0_readStatement 62 = .ok (.goto 8, 3) := by decide +kernel
theorem dX0_readStatement_65 : decode cX0_readStatement 65 = .ok (.aload_n 0, 1) := by decide +kernel
theorem dX0_readStatement_66 : decode cX0_readStatement 66 = .ok (.iload_n 2, 1) := by decide +kernel
theorem dX0_readStatement_67 : decode cX0_readStatement 67 = .ok (.invokevirtual 103, 3) := by decide +kernel
theorem dX0_readStatement_70 : decode cX0_readStatement 70 = .ok (.return_, 1) := by decide +kernel
theorem dX10_addToken_0 : decode cX10_addToken 0 = .ok (.aload_n 0, 1) := by decide +kernel
theorem dX10_addToken_1 : decode cX10_addToken 1 = .ok (.getfield 15, 3) := by decide +kernel
theorem dX10_addToken_4 : decode cX10_addToken 4 = .ok (.aload_n 0, 1) := by decide +kernel
theorem dX10_addToken_5 : decode cX10_addToken 5 = .ok (.getfield 37, 3) := by decide +kernel
theorem dX10_addToken_8 : decode cX10_addToken 8 = .ok (.iload_n 1, 1) := by decide +kernel
theorem dX10_addToken_9 : decode cX10_addToken 9 = .ok (.i2b, 1) := by decide +kernel
theorem dX10_addToken_10 : decode cX10_addToken 10 = .ok (.bastore, 1) := by decide +kernel
theorem dX10_addToken_11 : decode cX10_addToken 11 = .ok (.aload_n 0, 1) := by decide +kernel
theorem dX10_addToken_12 : decode cX10_addToken 12 = .ok (.getfield 18, 3) := by decide +kernel
theorem dX10_addToken_15 : decode cX10_addToken 15 = .ok (.aload_n 0, 1) := by decide +kernel
theorem dX10_addToken_16 : decode cX10_addToken 16 = .ok (.getfield 37, 3) := by decide +kernel
theorem dX10_addToken_19 : decode cX10_addToken 19 = .ok (.iload_n 2, 1) := by decide +kernel
theorem dX10_addToken_20 : decode cX10_addToken 20 = .ok (.iastore, 1) := by decide +kernel
theorem dX10_addToken_21 : decode cX10_addToken 21 = .ok (.aload_n 0, 1) := by decide +kernel
theorem dX10_addToken_22 : decode cX10_addToken 22 = .ok (.getfield 22, 3) := by decide +kernel
theorem dX10_addToken_25 : decode cX10_addToken 25 = .ok (.aload_n 0, 1) := by decide +kernel
theorem dX10_addToken_26 : decode cX10_addToken 26 = .ok (.getfield 37, 3) := by decide +kernel
theorem dX10_addToken_29 : decode cX10_addToken 29 = .ok (.iload_n 3, 1) := by decide +kernel
theorem dX10_addToken_30 : decode cX10_addToken 30 = .ok (.iastore, 1) := by decide +kernel
theorem dX10_addToken_31 : decode cX10_addToken 31 = .ok (.aload_n 0, 1) := by decide +kernel
theorem dX10_addToken_32 : decode cX10_addToken 32 = .ok (.getfield 25, 3) := by decide +kernel
theorem dX10_addToken_35 : decode cX10_addToken 35 = .ok (.aload_n 0, 1) := by decide +kernel
theorem dX10_addToken_36 : decode cX10_addToken 36 = .ok (.getfield 37, 3) := by decide +kernel
theorem dX10_addToken_39 : decode cX10_addToken 39 = .ok (.lload 4, 2) := by decide +kernel
theorem dX10_addToken_41 : decode cX10_addToken 41 = .ok (.lastore, 1) := by decide +kernel
theorem dX10_addToken_42 : decode cX10_addToken 42 = .ok (.aload_n 0, 1) := by decide +kernel
theorem dX10_addToken_43 : decode cX10_addToken 43 = .ok (.dup, 1) := by decide +kernel
theorem dX10_addToken_44 : decode cX10_addToken 44 = .ok (.getfield 37, 3) := by decide +kernel
theorem dX10_addToken_47 : decode cX10_addToken 47 = .ok (.iconst 1, 1) := by decide +kernel
theorem dX10_addToken_48 : decode cX10_addToken 48 = .ok (.iadd, 1) := by decide +kernel
theorem dX10_addToken_49 : decode cX10_addToken 49 = .ok (.putfield 37, 3) := by decide +kernel
theorem dX10_addToken_52 : decode cX10_addToken 52 = .ok (.return_, 1) := by decide +kernel
theorem dX10_isDigit_0 : decode cX10_isDigit 0 = .ok (.iload_n 0, 1) := by decide +kernel
theorem dX10_isDigit_1 : decode cX10_isDigit 1 = .ok (.bipush 48, 2) := by decide +kernel
theorem dX10_isDigit_3 : decode cX10_isDigit 3 = .ok (.if_icmp .lt 13, 3) := by decide +kernel
theorem dX10_isDigit_6 : decode cX10_isDigit 6 = .ok (.iload_n 0, 1) := by decide +kernel
theorem dX10_isDigit_7 : decode cX10_isDigit 7 = .ok (.bipush 57, 2) := by decide +kernel
theorem dX10_isDigit_9 : decode cX10_isDigit 9 = .ok (.if_icmp .gt 7, 3) := by decide +kernel
theorem dX10_isDigit_12 : decode cX10_isDigit 12 = .ok (.iconst 1, 1) := by decide +kernel
theorem dX10_isDigit_13 : decode cX10_isDigit 13 = .ok (.goto 4, 3) := by decide +kernel
theorem dX10_isDigit_16 : decode cX10_isDigit 16 = .ok (.iconst 0, 1) := by decide +kernel
theorem dX10_isDigit_17 : decode cX10_isDigit 17 = .ok (.ireturn, 1) := by decide +kernel
theorem dX10_isRowByte_0 : decode cX10_isRowByte 0 = .ok (.iload_n 0, 1) := by decide +kernel
theorem dX10_isRowByte_1 : decode cX10_isRowByte 1 = .ok (.invokestatic 86, 3) := by decide +kernel
theorem dX10_isRowByte_4 : decode cX10_isRowByte 4 = .ok (.ifCond .ne 16, 3) := by decide +kernel
theorem dX10_isRowByte_7 : decode cX10_isRowByte 7 = .ok (.iload_n 0, 1) := by decide +kernel
theorem dX10_isRowByte_8 : decode cX10_isRowByte 8 = .ok (.invokestatic 72, 3) := by decide +kernel
theorem dX10_isRowByte_11 : decode cX10_isRowByte 11 = .ok (.ifCond .ne 9, 3) := by decide +kernel
theorem dX10_isRowByte_14 : decode cX10_isRowByte 14 = .ok (.iload_n 0, 1) := by decide +kernel
theorem dX10_isRowByte_15 : decode cX10_isRowByte 15 = .ok (.bipush 95, 2) := by decide +kernel
theorem dX10_isRowByte_17 : decode cX10_isRowByte 17 = .ok (.if_icmp .ne 7, 3) := by decide +kernel
theorem dX10_isRowByte_20 : decode cX10_isRowByte 20 = .ok (.iconst 1, 1) := by decide +kernel
theorem dX10_isRowByte_21 : decode cX10_isRowByte 21 = .ok (.goto 4, 3) := by decide +kernel
theorem dX10_isRowByte_24 : decode cX10_isRowByte 24 = .ok (.iconst 0, 1) := by decide +kernel
theorem dX10_isRowByte_25 : decode cX10_isRowByte 25 = .ok (.ireturn, 1) := by decide +kernel
theorem dX10_rowEnd_0 : decode cX10_rowEnd 0 = .ok (.iload_n 1, 1) := by decide +kernel
theorem dX10_rowEnd_1 : decode cX10_rowEnd 1 = .ok (.istore_n 2, 1) := by decide +kernel
theorem dX10_rowEnd_2 : decode cX10_rowEnd 2 = .ok (.iload_n 2, 1) := by decide +kernel
theorem dX10_rowEnd_3 : decode cX10_rowEnd 3 = .ok (.aload_n 0, 1) := by decide +kernel
theorem dX10_rowEnd_4 : decode cX10_rowEnd 4 = .ok (.getfield 29, 3) := by decide +kernel
theorem dX10_rowEnd_7 : decode cX10_rowEnd 7 = .ok (.if_icmp .ge 21, 3) := by decide +kernel
theorem dX10_rowEnd_10 : decode cX10_rowEnd 10 = .ok (.aload_n 0, 1) := by decide +kernel
theorem dX10_rowEnd_11 : decode cX10_rowEnd 11 = .ok (.getfield 9, 3) := by decide +kernel
theorem dX10_rowEnd_14 : decode cX10_rowEnd 14 = .ok (.iload_n 2, 1) := by decide +kernel
theorem dX10_rowEnd_15 : decode cX10_rowEnd 15 = .ok (.baload, 1) := by decide +kernel
theorem dX10_rowEnd_16 : decode cX10_rowEnd 16 = .ok (.invokestatic 44, 3) := by decide +kernel
theorem dX10_rowEnd_19 : decode cX10_rowEnd 19 = .ok (.ifCond .eq 9, 3) := by decide +kernel
theorem dX10_rowEnd_22 : decode cX10_rowEnd 22 = .ok (.iinc 2 1, 3) := by decide +kernel
theorem dX10_rowEnd_25 : decode cX10_rowEnd 25 = .ok (.goto (-23), 3) := by decide +kernel
theorem dX10_rowEnd_28 : decode cX10_rowEnd 28 = .ok (.iload_n 2, 1) := by decide +kernel
theorem dX10_rowEnd_29 : decode cX10_rowEnd 29 = .ok (.ireturn, 1) := by decide +kernel
theorem dX10_digitValue_0 : decode cX10_digitValue 0 = .ok (.iload_n 0, 1) := by decide +kernel
theorem dX10_digitValue_1 : decode cX10_digitValue 1 = .ok (.bipush 48, 2) := by decide +kernel
theorem dX10_digitValue_3 : decode cX10_digitValue 3 = .ok (.if_icmp .lt 14, 3) := by decide +kernel
theorem dX10_digitValue_6 : decode cX10_digitValue 6 = .ok (.iload_n 0, 1) := by decide +kernel
theorem dX10_digitValue_7 : decode cX10_digitValue 7 = .ok (.bipush 57, 2) := by decide +kernel
theorem dX10_digitValue_9 : decode cX10_digitValue 9 = .ok (.if_icmp .gt 8, 3) := by decide +kernel
theorem dX10_digitValue_12 : decode cX10_digitValue 12 = .ok (.iload_n 0, 1) := by decide +kernel
theorem dX10_digitValue_13 : decode cX10_digitValue 13 = .ok (.bipush 48, 2) := by decide +kernel
theorem dX10_digitValue_15 : decode cX10_digitValue 15 = .ok (.isub, 1) := by decide +kernel
theorem dX10_digitValue_16 : decode cX10_digitValue 16 = .ok (.ireturn, 1) := by decide +kernel
theorem dX10_digitValue_17 : decode cX10_digitValue 17 = .ok (.iload_n 0, 1) := by decide +kernel
theorem dX10_digitValue_18 : decode cX10_digitValue 18 = .ok (.bipush 97, 2) := by decide +kernel
theorem dX10_digitValue_20 : decode cX10_digitValue 20 = .ok (.if_icmp .lt 17, 3) := by decide +kernel
theorem dX10_digitValue_23 : decode cX10_digitValue 23 = .ok (.iload_n 0, 1) := by decide +kernel
theorem dX10_digitValue_24 : decode cX10_digitValue 24 = .ok (.bipush 102, 2) := by decide +kernel
theorem dX10_digitValue_26 : decode cX10_digitValue 26 = .ok (.if_icmp .gt 11, 3) := by decide +kernel
theorem dX10_digitValue_29 : decode cX10_digitValue 29 = .ok (.iload_n 0, 1) := by decide +kernel
theorem dX10_digitValue_30 : decode cX10_digitValue 30 = .ok (.bipush 97, 2) := by decide +kernel
theorem dX10_digitValue_32 : decode cX10_digitValue 32 = .ok (.isub, 1) := by decide +kernel
theorem dX10_digitValue_33 : decode cX10_digitValue 33 = .ok (.bipush 10, 2) := by decide +kernel
theorem dX10_digitValue_35 : decode cX10_digitValue 35 = .ok (.iadd, 1) := by decide +kernel
theorem dX10_digitValue_36 : decode cX10_digitValue 36 = .ok (.ireturn, 1) := by decide +kernel
theorem dX10_digitValue_37 : decode cX10_digitValue 37 = .ok (.iload_n 0, 1) := by decide +kernel
theorem dX10_digitValue_38 : decode cX10_digitValue 38 = .ok (.bipush 65, 2) := by decide +kernel
theorem dX10_digitValue_40 : decode cX10_digitValue 40 = .ok (.if_icmp .lt 19, 3) := by decide +kernel
theorem dX10_digitValue_43 : decode cX10_digitValue 43 = .ok (.iload_n 0, 1) := by decide +kernel
theorem dX10_digitValue_44 : decode cX10_digitValue 44 = .ok (.bipush 70, 2) := by decide +kernel
theorem dX10_digitValue_46 : decode cX10_digitValue 46 = .ok (.if_icmp .gt 13, 3) := by decide +kernel
theorem dX10_digitValue_49 : decode cX10_digitValue 49 = .ok (.iload_n 0, 1) := by decide +kernel
theorem dX10_digitValue_50 : decode cX10_digitValue 50 = .ok (.bipush 65, 2) := by decide +kernel
theorem dX10_digitValue_52 : decode cX10_digitValue 52 = .ok (.isub, 1) := by decide +kernel
theorem dX10_digitValue_53 : decode cX10_digitValue 53 = .ok (.bipush 10, 2) := by decide +kernel
theorem dX10_digitValue_55 : decode cX10_digitValue 55 = .ok (.iadd, 1) := by decide +kernel
theorem dX10_digitValue_56 : decode cX10_digitValue 56 = .ok (.goto 5, 3) := by decide +kernel
theorem dX10_digitValue_59 : decode cX10_digitValue 59 = .ok (.bipush 16, 2) := by decide +kernel
theorem dX10_digitValue_61 : decode cX10_digitValue 61 = .ok (.ireturn, 1) := by decide +kernel
theorem dX10_valueOf_0 : decode cX10_valueOf 0 = .ok (.iload_n 2, 1) := by decide +kernel
theorem dX10_valueOf_1 : decode cX10_valueOf 1 = .ok (.iload_n 1, 1) := by decide +kernel
theorem dX10_valueOf_2 : decode cX10_valueOf 2 = .ok (.isub, 1) := by decide +kernel
theorem dX10_valueOf_3 : decode cX10_valueOf 3 = .ok (.iload 4, 2) := by decide +kernel
theorem dX10_valueOf_5 : decode cX10_valueOf 5 = .ok (.if_icmp .le 7, 3) := by decide +kernel
theorem dX10_valueOf_8 : decode cX10_valueOf 8 = .ok (.ldc2_w 75, 3) := by decide +kernel
theorem dX10_valueOf_11 : decode cX10_valueOf 11 = .ok (.lreturn, 1) := by decide +kernel
theorem dX10_valueOf_12 : decode cX10_valueOf 12 = .ok (.lconst 0, 1) := by decide +kernel
theorem dX10_valueOf_13 : decode cX10_valueOf 13 = .ok (.lstore 5, 2) := by decide +kernel
theorem dX10_valueOf_15 : decode cX10_valueOf 15 = .ok (.iload_n 1, 1) := by decide +kernel
theorem dX10_valueOf_16 : decode cX10_valueOf 16 = .ok (.istore 7, 2) := by decide +kernel
theorem dX10_valueOf_18 : decode cX10_valueOf 18 = .ok (.iload 7, 2) := by decide +kernel
theorem dX10_valueOf_20 : decode cX10_valueOf 20 = .ok (.iload_n 2, 1) := by decide +kernel
theorem dX10_valueOf_21 : decode cX10_valueOf 21 = .ok (.if_icmp .ge 42, 3) := by decide +kernel
theorem dX10_valueOf_24 : decode cX10_valueOf 24 = .ok (.aload_n 0, 1) := by decide +kernel
theorem dX10_valueOf_25 : decode cX10_valueOf 25 = .ok (.getfield 9, 3) := by decide +kernel
theorem dX10_valueOf_28 : decode cX10_valueOf 28 = .ok (.iload 7, 2) := by decide +kernel
theorem dX10_valueOf_30 : decode cX10_valueOf 30 = .ok (.baload, 1) := by decide +kernel
theorem dX10_valueOf_31 : decode cX10_valueOf 31 = .ok (.invokestatic 81, 3) := by decide +kernel
theorem dX10_valueOf_34 : decode cX10_valueOf 34 = .ok (.istore 8, 2) := by decide +kernel
theorem dX10_valueOf_36 : decode cX10_valueOf 36 = .ok (.iload 8, 2) := by decide +kernel
theorem dX10_valueOf_38 : decode cX10_valueOf 38 = .ok (.iload_n 3, 1) := by decide +kernel
theorem dX10_valueOf_39 : decode cX10_valueOf 39 = .ok (.if_icmp .lt 7, 3) := by decide +kernel
theorem dX10_valueOf_42 : decode cX10_valueOf 42 = .ok (.ldc2_w 75, 3) := by decide +kernel
theorem dX10_valueOf_45 : decode cX10_valueOf 45 = .ok (.lreturn, 1) := by decide +kernel
theorem dX10_valueOf_46 : decode cX10_valueOf 46 = .ok (.lload 5, 2) := by decide +kernel
theorem dX10_valueOf_48 : decode cX10_valueOf 48 = .ok (.iload_n 3, 1) := by decide +kernel
theorem dX10_valueOf_49 : decode cX10_valueOf 49 = .ok (.i2l, 1) := by decide +kernel
theorem dX10_valueOf_50 : decode cX10_valueOf 50 = .ok (.lmul, 1) := by decide +kernel
theorem dX10_valueOf_51 : decode cX10_valueOf 51 = .ok (.iload 8, 2) := by decide +kernel
theorem dX10_valueOf_53 : decode cX10_valueOf 53 = .ok (.i2l, 1) := by decide +kernel
theorem dX10_valueOf_54 : decode cX10_valueOf 54 = .ok (.ladd, 1) := by decide +kernel
theorem dX10_valueOf_55 : decode cX10_valueOf 55 = .ok (.lstore 5, 2) := by decide +kernel
theorem dX10_valueOf_57 : decode cX10_valueOf 57 = .ok (.iinc 7 1, 3) := by decide +kernel
theorem dX10_valueOf_60 : decode cX10_valueOf 60 = .ok (.goto (-42), 3) := by decide +kernel
theorem dX10_valueOf_63 : decode cX10_valueOf 63 = .ok (.lload 5, 2) := by decide +kernel
theorem dX10_valueOf_65 : decode cX10_valueOf 65 = .ok (.ldc2_w 84, 3) := by decide +kernel
theorem dX10_valueOf_68 : decode cX10_valueOf 68 = .ok (.lcmp, 1) := by decide +kernel
theorem dX10_valueOf_69 : decode cX10_valueOf 69 = .ok (.ifCond .ge 8, 3) := by decide +kernel
theorem dX10_valueOf_72 : decode cX10_valueOf 72 = .ok (.lload 5, 2) := by decide +kernel
theorem dX10_valueOf_74 : decode cX10_valueOf 74 = .ok (.goto 6, 3) := by decide +kernel
theorem dX10_valueOf_77 : decode cX10_valueOf 77 = .ok (.ldc2_w 75, 3) := by decide +kernel
theorem dX10_valueOf_80 : decode cX10_valueOf 80 = .ok (.lreturn, 1) := by decide +kernel
