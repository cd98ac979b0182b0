theorem dX11_told_0 : decode cX11_told 0 = .ok (.aload_n 0, 1) := by decide +kernel
theorem dX11_told_1 : decode cX11_told 1 = .ok (.getfield 31, 3) := by decide +kernel
theorem dX11_told_4 : decode cX11_told 4 = .ok (.iload_n 1, 1) := by decide +kernel
theorem dX11_told_5 : decode cX11_told 5 = .ok (.invokevirtual 177, 3) := by decide +kernel
theorem dX11_told_8 : decode cX11_told 8 = .ok (.ifCond .ne 13, 3) := by decide +kernel
theorem dX11_told_11 : decode cX11_told 11 = .ok (.new 180, 3) := by decide +kernel
theorem dX11_told_14 : decode cX11_told 14 = .ok (.dup, 1) := by decide +kernel
theorem dX11_told_15 : decode cX11_told 15 = .ok (.ldc 182, 2) := by decide +kernel
theorem dX11_told_17 : decode cX11_told 17 = .ok (.invokespecial 184, 3) := by decide +kernel
theorem dX11_told_20 : decode cX11_told 20 = .ok (.athrow, 1) := by decide +kernel
theorem dX11_told_21 : decode cX11_told 21 = .ok (.aload_n 0, 1) := by decide +kernel
theorem dX11_told_22 : decode cX11_told 22 = .ok (.getfield 31, 3) := by decide +kernel
theorem dX11_told_25 : decode cX11_told 25 = .ok (.getfield 185, 3) := by decide +kernel
theorem dX11_told_28 : decode cX11_told 28 = .ok (.iload_n 1, 1) := by decide +kernel
theorem dX11_told_29 : decode cX11_told 29 = .ok (.aaload, 1) := by decide +kernel
theorem dX11_told_30 : decode cX11_told 30 = .ok (.astore_n 3, 1) := by decide +kernel
theorem dX11_told_31 : decode cX11_told 31 = .ok (.iload_n 2, 1) := by decide +kernel
theorem dX11_told_32 : decode cX11_told 32 = .ok (.bipush 10, 2) := by decide +kernel
theorem dX11_told_34 : decode cX11_told 34 = .ok (.if_icmp .lt 24, 3) := by decide +kernel
theorem dX11_told_37 : decode cX11_told 37 = .ok (.iload_n 2, 1) := by decide +kernel
theorem dX11_told_38 : decode cX11_told 38 = .ok (.bipush 10, 2) := by decide +kernel
theorem dX11_told_40 : decode cX11_told 40 = .ok (.aload_n 3, 1) := by decide +kernel
theorem dX11_told_41 : decode cX11_told 41 = .ok (.getfield 189, 3) := by decide +kernel
theorem dX11_told_44 : decode cX11_told 44 = .ok (.iadd, 1) := by decide +kernel
theorem dX11_told_45 : decode cX11_told 45 = .ok (.if_icmp .ge 13, 3) := by decide +kernel
theorem dX11_told_48 : decode cX11_told 48 = .ok (.aload_n 3, 1) := by decide +kernel
theorem dX11_told_49 : decode cX11_told 49 = .ok (.getfield 194, 3) := by decide +kernel
theorem dX11_told_52 : decode cX11_told 52 = .ok (.iload_n 2, 1) := by decide +kernel
theorem dX11_told_53 : decode cX11_told 53 = .ok (.bipush 10, 2) := by decide +kernel
theorem dX11_told_55 : decode cX11_told 55 = .ok (.isub, 1) := by decide +kernel
theorem dX11_told_56 : decode cX11_told 56 = .ok (.laload, 1) := by decide +kernel
theorem dX11_told_57 : decode cX11_told 57 = .ok (.lreturn, 1) := by decide +kernel
theorem dX11_told_58 : decode cX11_told 58 = .ok (.iload_n 2, 1) := by decide +kernel
theorem dX11_told_59 : decode cX11_told 59 = .ok (.bipush 20, 2) := by decide +kernel
theorem dX11_told_61 : decode cX11_told 61 = .ok (.if_icmp .lt 24, 3) := by decide +kernel
theorem dX11_told_64 : decode cX11_told 64 = .ok (.iload_n 2, 1) := by decide +kernel
theorem dX11_told_65 : decode cX11_told 65 = .ok (.bipush 20, 2) := by decide +kernel
theorem dX11_told_67 : decode cX11_told 67 = .ok (.aload_n 3, 1) := by decide +kernel
theorem dX11_told_68 : decode cX11_told 68 = .ok (.getfield 189, 3) := by decide +kernel
theorem dX11_told_71 : decode cX11_told 71 = .ok (.iadd, 1) := by decide +kernel
theorem dX11_told_72 : decode cX11_told 72 = .ok (.if_icmp .ge 13, 3) := by decide +kernel
theorem dX11_told_75 : decode cX11_told 75 = .ok (.aload_n 3, 1) := by decide +kernel
theorem dX11_told_76 : decode cX11_told 76 = .ok (.getfield 197, 3) := by decide +kernel
theorem dX11_told_79 : decode cX11_told 79 = .ok (.iload_n 2, 1) := by decide +kernel
theorem dX11_told_80 : decode cX11_told 80 = .ok (.bipush 20, 2) := by decide +kernel
theorem dX11_told_82 : decode cX11_told 82 = .ok (.isub, 1) := by decide +kernel
theorem dX11_told_83 : decode cX11_told 83 = .ok (.laload, 1) := by decide +kernel
theorem dX11_told_84 : decode cX11_told 84 = .ok (.lreturn, 1) := by decide +kernel
theorem dX11_told_85 : decode cX11_told 85 = .ok (.iload_n 2, 1) := by decide +kernel
theorem dX11_told_86 : decode cX11_told 86 = .ok (.tableswitch 54 0 3 #[30, 36, 42, 48], 30) := by decide +kernel
theorem dX11_told_116 : decode cX11_told 116 = .ok (.aload_n 3, 1) := by decide +kernel
theorem dX11_told_117 : decode cX11_told 117 = .ok (.getfield 189, 3) := by decide +kernel
theorem dX11_told_120 : decode cX11_told 120 = .ok (.i2l, 1) := by decide +kernel
theorem dX11_told_121 : decode cX11_told 121 = .ok (.lreturn, 1) := by decide +kernel
theorem dX11_told_122 : decode cX11_told 122 = .ok (.aload_n 3, 1) := by decide +kernel
theorem dX11_told_123 : decode cX11_told 123 = .ok (.getfield 200, 3) := by decide +kernel
theorem dX11_told_126 : decode cX11_told 126 = .ok (.i2l, 1) := by decide +kernel
theorem dX11_told_127 : decode cX11_told 127 = .ok (.lreturn, 1) := by decide +kernel
theorem dX11_told_128 : decode cX11_told 128 = .ok (.aload_n 3, 1) := by decide +kernel
theorem dX11_told_129 : decode cX11_told 129 = .ok (.getfield 203, 3) := by decide +kernel
theorem dX11_told_132 : decode cX11_told 132 = .ok (.i2l, 1) := by decide +kernel
theorem dX11_told_133 : decode cX11_told 133 = .ok (.lreturn, 1) := by decide +kernel
theorem dX11_told_134 : decode cX11_told 134 = .ok (.aload_n 3, 1) := by decide +kernel
theorem dX11_told_135 : decode cX11_told 135 = .ok (.getfield 206, 3) := by decide +kernel
theorem dX11_told_138 : decode cX11_told 138 = .ok (.i2l, 1) := by decide +kernel
theorem dX11_told_139 : decode cX11_told 139 = .ok (.lreturn, 1) := by decide +kernel
theorem dX11_told_140 : decode cX11_told 140 = .ok (.new 85, 3) := by decide +kernel
theorem dX11_told_143 : decode cX11_told 143 = .ok (.dup, 1) := by decide +kernel
theorem dX11_told_144 : decode cX11_told 144 = .ok (.ldc 209, 2) := by decide +kernel
theorem dX11_told_146 : decode cX11_told 146 = .ok (.invokespecial 89, 3) := by decide +kernel
theorem dX11_told_149 : decode cX11_told 149 = .ok (.athrow, 1) := by decide +kernel
theorem dX11_overlap_0 : decode cX11_overlap 0 = .ok (.aload_n 0, 1) := by decide +kernel
theorem dX11_overlap_1 : decode cX11_overlap 1 = .ok (.getfield 31, 3) := by decide +kernel
theorem dX11_overlap_4 : decode cX11_overlap 4 = .ok (.iload_n 1, 1) := by decide +kernel
theorem dX11_overlap_5 : decode cX11_overlap 5 = .ok (.invokevirtual 177, 3) := by decide +kernel
theorem dX11_overlap_8 : decode cX11_overlap 8 = .ok (.ifCond .eq 14, 3) := by decide +kernel
theorem dX11_overlap_11 : decode cX11_overlap 11 = .ok (.aload_n 0, 1) := by decide +kernel
theorem dX11_overlap_12 : decode cX11_overlap 12 = .ok (.getfield 31, 3) := by decide +kernel
theorem dX11_overlap_15 : decode cX11_overlap 15 = .ok (.iload_n 2, 1) := by decide +kernel
theorem dX11_overlap_16 : decode cX11_overlap 16 = .ok (.invokevirtual 177, 3) := by decide +kernel
theorem dX11_overlap_19 : decode cX11_overlap 19 = .ok (.ifCond .ne 13, 3) := by decide +kernel
theorem dX11_overlap_22 : decode cX11_overlap 22 = .ok (.new 180, 3) := by decide +kernel
theorem dX11_overlap_25 : decode cX11_overlap 25 = .ok (.dup, 1) := by decide +kernel
theorem dX11_overlap_26 : decode cX11_overlap 26 = .ok (.ldc 182, 2) := by decide +kernel
theorem dX11_overlap_28 : decode cX11_overlap 28 = .ok (.invokespecial 184, 3) := by decide +kernel
theorem dX11_overlap_31 : decode cX11_overlap 31 = .ok (.athrow, 1) := by decide +kernel
theorem dX11_overlap_32 : decode cX11_overlap 32 = .ok (.aload_n 0, 1) := by decide +kernel
theorem dX11_overlap_33 : decode cX11_overlap 33 = .ok (.getfield 31, 3) := by decide +kernel
theorem dX11_overlap_36 : decode cX11_overlap 36 = .ok (.getfield 185, 3) := by decide +kernel
theorem dX11_overlap_39 : decode cX11_overlap 39 = .ok (.iload_n 1, 1) := by decide +kernel
theorem dX11_overlap_40 : decode cX11_overlap 40 = .ok (.aaload, 1) := by decide +kernel
theorem dX11_overlap_41 : decode cX11_overlap 41 = .ok (.aload_n 0, 1) := by decide +kernel
theorem dX11_overlap_42 : decode cX11_overlap 42 = .ok (.getfield 31, 3) := by decide +kernel
theorem dX11_overlap_45 : decode cX11_overlap 45 = .ok (.getfield 185, 3) := by decide +kernel
theorem dX11_overlap_48 : decode cX11_overlap 48 = .ok (.iload_n 2, 1) := by decide +kernel
theorem dX11_overlap_49 : decode cX11_overlap 49 = .ok (.aaload, 1) := by decide +kernel
theorem dX11_overlap_50 : decode cX11_overlap 50 = .ok (.invokevirtual 211, 3) := by decide +kernel
theorem dX11_overlap_53 : decode cX11_overlap 53 = .ok (.ireturn, 1) := by decide +kernel
theorem dX11_count_0 : decode cX11_count 0 = .ok (.iload_n 1, 1) := by decide +kernel
theorem dX11_count_1 : decode cX11_count 1 = .ok (.tableswitch 114 0 7 #[47, 55, 63, 71, 79, 90, 98, 106], 47) := by decide +kernel
theorem dX11_count_48 : decode cX11_count 48 = .ok (.aload_n 0, 1) := by decide +kernel
theorem dX11_count_49 : decode cX11_count 49 = .ok (.getfield 31, 3) := by decide +kernel
theorem dX11_count_52 : decode cX11_count 52 = .ok (.getfield 106, 3) := by decide +kernel
theorem dX11_count_55 : decode cX11_count 55 = .ok (.ireturn, 1) := by decide +kernel
theorem dX11_count_56 : decode cX11_count 56 = .ok (.aload_n 0, 1) := by decide +kernel
theorem dX11_count_57 : decode cX11_count 57 = .ok (.getfield 31, 3) := by decide +kernel
theorem dX11_count_60 : decode cX11_count 60 = .ok (.getfield 109, 3) := by decide +kernel
theorem dX11_count_63 : decode cX11_count 63 = .ok (.ireturn, 1) := by decide +kernel
theorem dX11_count_64 : decode cX11_count 64 = .ok (.aload_n 0, 1) := by decide +kernel
theorem dX11_count_65 : decode cX11_count 65 = .ok (.getfield 31, 3) := by decide +kernel
theorem dX11_count_68 : decode cX11_count 68 = .ok (.getfield 215, 3) := by decide +kernel
theorem dX11_count_71 : decode cX11_count 71 = .ok (.ireturn, 1) := by decide +kernel
theorem dX11_count_72 : decode cX11_count 72 = .ok (.aload_n 0, 1) := by decide +kernel
theorem dX11_count_73 : decode cX11_count 73 = .ok (.getfield 35, 3) := by decide +kernel
theorem dX11_count_76 : decode cX11_count 76 = .ok (.getfield 123, 3) := by decide +kernel
theorem dX11_count_79 : decode cX11_count 79 = .ok (.ireturn, 1) := by decide +kernel
theorem dX11_count_80 : decode cX11_count 80 = .ok (.aload_n 0, 1) := by decide +kernel
theorem dX11_count_81 : decode cX11_count 81 = .ok (.getfield 62, 3) := by decide +kernel
theorem dX11_count_84 : decode cX11_count 84 = .ok (.getfield 218, 3) := by decide +kernel
theorem dX11_count_87 : decode cX11_count 87 = .ok (.invokevirtual 222, 3) := by decide +kernel
theorem dX11_count_90 : decode cX11_count 90 = .ok (.ireturn, 1) := by decide +kernel
theorem dX11_count_91 : decode cX11_count 91 = .ok (.aload_n 0, 1) := by decide +kernel
theorem dX11_count_92 : decode cX11_count 92 = .ok (.getfield 62, 3) := by decide +kernel
theorem dX11_count_95 : decode cX11_count 95 = .ok (.getfield 227, 3) := by decide +kernel
theorem dX11_count_98 : decode cX11_count 98 = .ok (.ireturn, 1) := by decide +kernel
theorem dX11_count_99 : decode cX11_count 99 = .ok (.aload_n 0, 1) := by decide +kernel
theorem dX11_count_100 : decode cX11_count 100 = .ok (.getfield 21, 3) := by decide +kernel
theorem dX11_count_103 : decode cX11_count 103 = .ok (.getfield 81, 3) := by decide +kernel
theorem dX11_count_106 : decode cX11_count 106 = .ok (.ireturn, 1) := by decide +kernel
theorem dX11_count_107 : decode cX11_count 107 = .ok (.aload_n 0, 1) := by decide +kernel
theorem dX11_count_108 : decode cX11_count 108 = .ok (.getfield 44, 3) := by decide +kernel
theorem dX11_count_111 : decode cX11_count 111 = .ok (.getfield 167, 3) := by decide +kernel
theorem dX11_count_114 : decode cX11_count 114 = .ok (.ireturn, 1) := by decide +kernel
theorem dX11_count_115 : decode cX11_count 115 = .ok (.new 85, 3) := by decide +kernel
theorem dX11_count_118 : decode cX11_count 118 = .ok (.dup, 1) := by decide +kernel
theorem dX11_count_119 : decode cX11_count 119 = .ok (.ldc 230, 2) := by decide +kernel
theorem dX11_count_121 : decode cX11_count 121 = .ok (.invokespecial 89, 3) := by decide +kernel
theorem dX11_count_124 : decode cX11_count 124 = .ok (.athrow, 1) := by decide +kernel
theorem dZ2_init_0 : decode cZ2_init 0 = .ok (.aload_n 0, 1) := by decide +kernel
theorem dZ2_init_1 : decode cZ2_init 1 = .ok (.invokespecial 1, 3) := by decide +kernel
theorem dZ2_init_4 : decode cZ2_init 4 = .ok (.aload_n 0, 1) := by decide +kernel
theorem dZ2_init_5 : decode cZ2_init 5 = .ok (.aload_n 0, 1) := by decide +kernel
theorem dZ2_init_6 : decode cZ2_init 6 = .ok (.putfield 7, 3) := by decide +kernel
theorem dZ2_init_9 : decode cZ2_init 9 = .ok (.aload_n 0, 1) := by decide +kernel
theorem dZ2_init_10 : decode cZ2_init 10 = .ok (.getstatic 13, 3) := by decide +kernel
theorem dZ2_init_13 : decode cZ2_init 13 = .ok (.putfield 17, 3) := by decide +kernel
theorem dZ2_init_16 : decode cZ2_init 16 = .ok (.aload_n 0, 1) := by decide +kernel
theorem dZ2_init_17 : decode cZ2_init 17 = .ok (.getstatic 20, 3) := by decide +kernel
theorem dZ2_init_20 : decode cZ2_init 20 = .ok (.putfield 24, 3) := by decide +kernel
theorem dZ2_init_23 : decode cZ2_init 23 = .ok (.iload 4, 2) := by decide +kernel
theorem dZ2_init_25 : decode cZ2_init 25 = .ok (.ifCond .eq 11, 3) := by decide +kernel
theorem dZ2_init_28 : decode cZ2_init 28 = .ok (.aload_n 0, 1) := by decide +kernel
theorem dZ2_init_29 : decode cZ2_init 29 = .ok (.invokevirtual 27, 3) := by decide +kernel
theorem dZ2_init_32 : decode cZ2_init 32 = .ok (.pop, 1) := by decide +kernel
theorem dZ2_init_33 : decode cZ2_init 33 = .ok (.goto 8, 3) := by decide +kernel
theorem dZ2_init_36 : decode cZ2_init 36 = .ok (.aload_n 0, 1) := by decide +kernel
theorem dZ2_init_37 : decode cZ2_init 37 = .ok (.aconst_null, 1) := by decide +kernel
theorem dZ2_init_38 : decode cZ2_init 38 = .ok (.putfield 17, 3) := by decide +kernel
theorem dZ2_init_41 : decode cZ2_init 41 = .ok (.aload_n 0, 1) := by decide +kernel
theorem dZ2_init_42 : decode cZ2_init 42 = .ok (.aload_n 1, 1) := by decide +kernel
theorem dZ2_init_43 : decode cZ2_init 43 = .ok (.putfield 31, 3) := by decide +kernel
theorem dZ2_init_46 : decode cZ2_init 46 = .ok (.aload_n 0, 1) := by decide +kernel
theorem dZ2_init_47 : decode cZ2_init 47 = .ok (.aload_n 2, 1) := by decide +kernel
theorem dZ2_init_48 : decode cZ2_init 48 = .ok (.putfield 7, 3) := by decide +kernel
theorem dZ2_init_51 : decode cZ2_init 51 = .ok (.iload_n 3, 1) := by decide +kernel
theorem dZ2_init_52 : decode cZ2_init 52 = .ok (.ifCond .ne 8, 3) := by decide +kernel
theorem dZ2_init_55 : decode cZ2_init 55 = .ok (.aload_n 0, 1) := by decide +kernel
theorem dZ2_init_56 : decode cZ2_init 56 = .ok (.aconst_null, 1) := by decide +kernel
theorem dZ2_init_57 : decode cZ2_init 57 = .ok (.putfield 24, 3) := by decide +kernel
theorem dZ2_init_60 : decode cZ2_init 60 = .ok (.return_, 1) := by decide +kernel
theorem dZ1_init_0 : decode cZ1_init 0 = .ok (.aload_n 0, 1) := by decide +kernel
theorem dZ1_init_1 : decode cZ1_init 1 = .ok (.aload_n 1, 1) := by decide +kernel
theorem dZ1_init_2 : decode cZ1_init 2 = .ok (.aload_n 2, 1) := by decide +kernel
theorem dZ1_init_3 : decode cZ1_init 3 = .ok (.iload_n 3, 1) := by decide +kernel
theorem dZ1_init_4 : decode cZ1_init 4 = .ok (.iload 4, 2) := by decide +kernel
theorem dZ1_init_6 : decode cZ1_init 6 = .ok (.invokespecial 16, 3) := by decide +kernel
theorem dZ1_init_9 : decode cZ1_init 9 = .ok (.return_, 1) := by decide +kernel
theorem dZ0_init_0 : decode cZ0_init 0 = .ok (.aload_n 0, 1) := by decide +kernel
theorem dZ0_init_1 : decode cZ0_init 1 = .ok (.aload_n 1, 1) := by decide +kernel
theorem dZ0_init_2 : decode cZ0_init 2 = .ok (.aload_n 2, 1) := by decide +kernel
theorem dZ0_init_3 : decode cZ0_init 3 = .ok (.iload_n 3, 1) := by decide +kernel
theorem dZ0_init_4 : decode cZ0_init 4 = .ok (.iload 4, 2) := by decide +kernel
theorem dZ0_init_6 : decode cZ0_init 6 = .ok (.invokespecial 16, 3) := by decide +kernel
theorem dZ0_init_9 : decode cZ0_init 9 = .ok (.return_, 1) := by decide +kernel
theorem dX12_init_0 : decode cX12_init 0 = .ok (.aload_n 0, 1) := by decide +kernel
theorem dX12_init_1 : decode cX12_init 1 = .ok (.aconst_null, 1) := by decide +kernel
theorem dX12_init_2 : decode cX12_init 2 = .ok (.aconst_null, 1) := by decide +kernel
theorem dX12_init_3 : decode cX12_init 3 = .ok (.iconst 0, 1) := by decide +kernel
theorem dX12_init_4 : decode cX12_init 4 = .ok (.iconst 0, 1) := by decide +kernel
theorem dX12_init_5 : decode cX12_init 5 = .ok (.invokespecial 1, 3) := by decide +kernel
theorem dX12_init_8 : decode cX12_init 8 = .ok (.aload_n 0, 1) := by decide +kernel
theorem dX12_init_9 : decode cX12_init 9 = .ok (.iload_n 1, 1) := by decide +kernel
theorem dX12_init_10 : decode cX12_init 10 = .ok (.putfield 7, 3) := by decide +kernel
theorem dX12_init_13 : decode cX12_init 13 = .ok (.aload_n 0, 1) := by decide +kernel
theorem dX12_init_14 : decode cX12_init 14 = .ok (.iload_n 2, 1) := by decide +kernel
theorem dX12_init_15 : decode cX12_init 15 = .ok (.putfield 13, 3) := by decide +kernel
theorem dX12_init_18 : decode cX12_init 18 = .ok (.return_, 1) := by decide +kernel
theorem dX13_init_0 : decode cX13_init 0 = .ok (.aload_n 0, 1) := by decide +kernel
theorem dX13_init_1 : decode cX13_init 1 = .ok (.invokespecial 1, 3) := by decide +kernel
theorem dX13_init_4 : decode cX13_init 4 = .ok (.aload_n 0, 1) := by decide +kernel
theorem dX13_init_5 : decode cX13_init 5 = .ok (.sipush 6000, 3) := by decide +kernel
theorem dX13_init_8 : decode cX13_init 8 = .ok (.newarray .byte, 2) := by decide +kernel
theorem dX13_init_10 : decode cX13_init 10 = .ok (.putfield 9, 3) := by decide +kernel
theorem dX13_init_13 : decode cX13_init 13 = .ok (.aload_n 0, 1) := by decide +kernel
theorem dX13_init_14 : decode cX13_init 14 = .ok (.sipush 6000, 3) := by decide +kernel
theorem dX13_init_17 : decode cX13_init 17 = .ok (.newarray .byte, 2) := by decide +kernel
theorem dX13_init_19 : decode cX13_init 19 = .ok (.putfield 13, 3) := by decide +kernel
theorem dX13_init_22 : decode cX13_init 22 = .ok (.aload_n 0, 1) := by decide +kernel
theorem dX13_init_23 : decode cX13_init 23 = .ok (.sipush 400, 3) := by decide +kernel
theorem dX13_init_26 : decode cX13_init 26 = .ok (.newarray .byte, 2) := by decide +kernel
theorem dX13_init_28 : decode cX13_init 28 = .ok (.putfield 16, 3) := by decide +kernel
theorem dX13_init_31 : decode cX13_init 31 = .ok (.aload_n 0, 1) := by decide +kernel
theorem dX13_init_32 : decode cX13_init 32 = .ok (.iconst (-1), 1) := by decide +kernel
theorem dX13_init_33 : decode cX13_init 33 = .ok (.putfield 19, 3) := by decide +kernel
theorem dX13_init_36 : decode cX13_init 36 = .ok (.aload_n 0, 1) := by decide +kernel
theorem dX13_init_37 : decode cX13_init 37 = .ok (.iconst (-1), 1) := by decide +kernel
theorem dX13_init_38 : decode cX13_init 38 = .ok (.putfield 23, 3) := by decide +kernel
theorem dX13_init_41 : decode cX13_init 41 = .ok (.aload_n 0, 1) := by decide +kernel
theorem dX13_init_42 : decode cX13_init 42 = .ok (.sipush 6002, 3) := by decide +kernel
theorem dX13_init_45 : decode cX13_init 45 = .ok (.newarray .int, 2) := by decide +kernel
theorem dX13_init_47 : decode cX13_init 47 = .ok (.putfield 26, 3) := by decide +kernel
theorem dX13_init_50 : decode cX13_init 50 = .ok (.aload_n 0, 1) := by decide +kernel
theorem dX13_init_51 : decode cX13_init 51 = .ok (.sipush 6002, 3) := by decide +kernel
theorem dX13_init_54 : decode cX13_init 54 = .ok (.newarray .int, 2) := by decide +kernel
theorem dX13_init_56 : decode cX13_init 56 = .ok (.putfield 30, 3) := by decide +kernel
theorem dX13_init_59 : decode cX13_init 59 = .ok (.aload_n 0, 1) := by decide +kernel
theorem dX13_init_60 : decode cX13_init 60 = .ok (.sipush 6002, 3) := by decide +kernel
theorem dX13_init_63 : decode cX13_init 63 = .ok (.newarray .int, 2) := by decide +kernel
theorem dX13_init_65 : decode cX13_init 65 = .ok (.putfield 33, 3) := by decide +kernel
theorem dX13_init_68 : decode cX13_init 68 = .ok (.aload_n 0, 1) := by decide +kernel
theorem dX13_init_69 : decode cX13_init 69 = .ok (.sipush 6002, 3) := by decide +kernel
theorem dX13_init_72 : decode cX13_init 72 = .ok (.newarray .long, 2) := by decide +kernel
theorem dX13_init_74 : decode cX13_init 74 = .ok (.putfield 36, 3) := by decide +kernel
theorem dX13_init_77 : decode cX13_init 77 = .ok (.aload_n 0, 1) := by decide +kernel
theorem dX13_init_78 : decode cX13_init 78 = .ok (.ldc 40, 2) := by decide +kernel
theorem dX13_init_80 : decode cX13_init 80 = .ok (.newarray .byte, 2) := by decide +kernel
theorem dX13_init_82 : decode cX13_init 82 = .ok (.putfield 41, 3) := by decide +kernel
theorem dX13_init_85 : decode cX13_init 85 = .ok (.aload_n 0, 1) := by decide +kernel
theorem dX13_init_86 : decode cX13_init 86 = .ok (.sipush 8000, 3) := by decide +kernel
theorem dX13_init_89 : decode cX13_init 89 = .ok (.newarray .int, 2) := by decide +kernel
theorem dX13_init_91 : decode cX13_init 91 = .ok (.putfield 44, 3) := by decide +kernel
theorem dX13_init_94 : decode cX13_init 94 = .ok (.aload_n 0, 1) := by decide +kernel
theorem dX13_init_95 : decode cX13_init 95 = .ok (.sipush 8000, 3) := by decide +kernel
theorem dX13_init_98 : decode cX13_init 98 = .ok (.newarray .int, 2) := by decide +kernel
theorem dX13_init_100 : decode cX13_init 100 = .ok (.putfield 47, 3) := by decide +kernel
theorem dX13_init_103 : decode cX13_init 103 = .ok (.aload_n 0, 1) := by decide +kernel
theorem dX13_init_104 : decode cX13_init 104 = .ok (.bipush 40, 2) := by decide +kernel
theorem dX13_init_106 : decode cX13_init 106 = .ok (.newarray .int, 2) := by decide +kernel
theorem dX13_init_108 : decode cX13_init 108 = .ok (.putfield 50, 3) := by decide +kernel
theorem dX13_init_111 : decode cX13_init 111 = .ok (.aload_n 0, 1) := by decide +kernel
theorem dX13_init_112 : decode cX13_init 112 = .ok (.bipush 40, 2) := by decide +kernel
theorem dX13_init_114 : decode cX13_init 114 = .ok (.newarray .int, 2) := by decide +kernel
theorem dX13_init_116 : decode cX13_init 116 = .ok (.putfield 53, 3) := by decide +kernel
theorem dX13_init_119 : decode cX13_init 119 = .ok (.aload_n 0, 1) := by decide +kernel
theorem dX13_init_120 : decode cX13_init 120 = .ok (.bipush 40, 2) := by decide +kernel
theorem dX13_init_122 : decode cX13_init 122 = .ok (.newarray .int, 2) := by decide +kernel
theorem dX13_init_124 : decode cX13_init 124 = .ok (.putfield 56, 3) := by decide +kernel
theorem dX13_init_127 : decode cX13_init 127 = .ok (.aload_n 0, 1) := by decide +kernel
theorem dX13_init_128 : decode cX13_init 128 = .ok (.bipush 40, 2) := by decide +kernel
theorem dX13_init_130 : decode cX13_init 130 = .ok (.newarray .int, 2) := by decide +kernel
theorem dX13_init_132 : decode cX13_init 132 = .ok (.putfield 59, 3) := by decide +kernel
theorem dX13_init_135 : decode cX13_init 135 = .ok (.aload_n 0, 1) := by decide +kernel
theorem dX13_init_136 : decode cX13_init 136 = .ok (.bipush 40, 2) := by decide +kernel
theorem dX13_init_138 : decode cX13_init 138 = .ok (.newarray .int, 2) := by decide +kernel
theorem dX13_init_140 : decode cX13_init 140 = .ok (.putfield 62, 3) := by decide +kernel
theorem dX13_init_143 : decode cX13_init 143 = .ok (.aload_n 0, 1) := by decide +kernel
theorem dX13_init_144 : decode cX13_init 144 = .ok (.sipush 1280, 3) := by decide +kernel
theorem dX13_init_147 : decode cX13_init 147 = .ok (.newarray .int, 2) := by decide +kernel
theorem dX13_init_149 : decode cX13_init 149 = .ok (.putfield 65, 3) := by decide +kernel
theorem dX13_init_152 : decode cX13_init 152 = .ok (.aload_n 0, 1) := by decide +kernel
theorem dX13_init_153 : decode cX13_init 153 = .ok (.bipush 96, 2) := by decide +kernel
theorem dX13_init_155 : decode cX13_init 155 = .ok (.newarray .int, 2) := by decide +kernel
theorem dX13_init_157 : decode cX13_init 157 = .ok (.putfield 68, 3) := by decide +kernel
theorem dX13_init_160 : decode cX13_init 160 = .ok (.aload_n 0, 1) := by decide +kernel
theorem dX13_init_161 : decode cX13_init 161 = .ok (.bipush 96, 2) := by decide +kernel
theorem dX13_init_163 : decode cX13_init 163 = .ok (.newarray .int, 2) := by decide +kernel
theorem dX13_init_165 : decode cX13_init 165 = .ok (.putfield 71, 3) := by decide +kernel
theorem dX13_init_168 : decode cX13_init 168 = .ok (.aload_n 0, 1) := by decide +kernel
theorem dX13_init_169 : decode cX13_init 169 = .ok (.bipush 96, 2) := by decide +kernel
theorem dX13_init_171 : decode cX13_init 171 = .ok (.newarray .int, 2) := by decide +kernel
theorem dX13_init_173 : decode cX13_init 173 = .ok (.putfield 74, 3) := by decide +kernel
theorem dX13_init_176 : decode cX13_init 176 = .ok (.aload_n 0, 1) := by decide +kernel
theorem dX13_init_177 : decode cX13_init 177 = .ok (.bipush 96, 2) := by decide +kernel
theorem dX13_init_179 : decode cX13_init 179 = .ok (.newarray .int, 2) := by decide +kernel
theorem dX13_init_181 : decode cX13_init 181 = .ok (.putfield 77, 3) := by decide +kernel
theorem dX13_init_184 : decode cX13_init 184 = .ok (.aload_n 0, 1) := by decide +kernel
theorem dX13_init_185 : decode cX13_init 185 = .ok (.bipush 96, 2) := by decide +kernel
theorem dX13_init_187 : decode cX13_init 187 = .ok (.newarray .int, 2) := by decide +kernel
theorem dX13_init_189 : decode cX13_init 189 = .ok (.putfield 80, 3) := by decide +kernel
theorem dX13_init_192 : decode cX13_init 192 = .ok (.aload_n 0, 1) := by decide +kernel
theorem dX13_init_193 : decode cX13_init 193 = .ok (.sipush 1152, 3) := by decide +kernel
theorem dX13_init_196 : decode cX13_init 196 = .ok (.newarray .int, 2) := by decide +kernel
theorem dX13_init_198 : decode cX13_init 198 = .ok (.putfield 83, 3) := by decide +kernel
theorem dX13_init_201 : decode cX13_init 201 = .ok (.aload_n 0, 1) := by decide +kernel
theorem dX13_init_202 : decode cX13_init 202 = .ok (.sipush 480, 3) := by decide +kernel
theorem dX13_init_205 : decode cX13_init 205 = .ok (.newarray .int, 2) := by decide +kernel
theorem dX13_init_207 : decode cX13_init 207 = .ok (.putfield 86, 3) := by decide +kernel
theorem dX13_init_210 : decode cX13_init 210 = .ok (.aload_n 0, 1) := by decide +kernel
theorem dX13_init_211 : decode cX13_init 211 = .ok (.sipush 480, 3) := by decide +kernel
theorem dX13_init_214 : decode cX13_init 214 = .ok (.newarray .int, 2) := by decide +kernel
theorem dX13_init_216 : decode cX13_init 216 = .ok (.putfield 89, 3) := by decide +kernel
theorem dX13_init_219 : decode cX13_init 219 = .ok (.aload_n 0, 1) := by decide +kernel
theorem dX13_init_220 : decode cX13_init 220 = .ok (.sipush 15360, 3) := by decide +kernel
theorem dX13_init_223 : decode cX13_init 223 = .ok (.newarray .int, 2) := by decide +kernel
theorem dX13_init_225 : decode cX13_init 225 = .ok (.putfield 92, 3) := by decide +kernel
theorem dX13_init_228 : decode cX13_init 228 = .ok (.aload_n 0, 1) := by decide +kernel
theorem dX13_init_229 : decode cX13_init 229 = .ok (.sipush 160, 3) := by decide +kernel
theorem dX13_init_232 : decode cX13_init 232 = .ok (.newarray .int, 2) := by decide +kernel
theorem dX13_init_234 : decode cX13_init 234 = .ok (.putfield 95, 3) := by decide +kernel
theorem dX13_init_237 : decode cX13_init 237 = .ok (.aload_n 0, 1) := by decide +kernel
theorem dX13_init_238 : decode cX13_init 238 = .ok (.sipush 4096, 3) := by decide +kernel
theorem dX13_init_241 : decode cX13_init 241 = .ok (.newarray .long, 2) := by decide +kernel
theorem dX13_init_243 : decode cX13_init 243 = .ok (.putfield 98, 3) := by decide +kernel
theorem dX13_init_246 : decode cX13_init 246 = .ok (.aload_n 0, 1) := by decide +kernel
theorem dX13_init_247 : decode cX13_init 247 = .ok (.sipush 4096, 3) := by decide +kernel
theorem dX13_init_250 : decode cX13_init 250 = .ok (.newarray .boolean, 2) := by decide +kernel
theorem dX13_init_252 : decode cX13_init 252 = .ok (.putfield 101, 3) := by decide +kernel
theorem dX13_init_255 : decode cX13_init 255 = .ok (.aload_n 0, 1) := by decide +kernel
theorem dX13_init_256 : decode cX13_init 256 = .ok (.sipush 6002, 3) := by decide +kernel
theorem dX13_init_259 : decode cX13_init 259 = .ok (.newarray .int, 2) := by decide +kernel
theorem dX13_init_261 : decode cX13_init 261 = .ok (.putfield 105, 3) := by decide +kernel
theorem dX13_init_264 : decode cX13_init 264 = .ok (.aload_n 0, 1) := by decide +kernel
theorem dX13_init_265 : decode cX13_init 265 = .ok (.sipush 6002, 3) := by decide +kernel
theorem dX13_init_268 : decode cX13_init 268 = .ok (.newarray .int, 2) := by decide +kernel
theorem dX13_init_270 : decode cX13_init 270 = .ok (.putfield 108, 3) := by decide +kernel
theorem dX13_init_273 : decode cX13_init 273 = .ok (.aload_n 0, 1) := by decide +kernel
theorem dX13_init_274 : decode cX13_init 274 = .ok (.sipush 6002, 3) := by decide +kernel
theorem dX13_init_277 : decode cX13_init 277 = .ok (.newarray .int, 2) := by decide +kernel
theorem dX13_init_279 : decode cX13_init 279 = .ok (.putfield 111, 3) := by decide +kernel
theorem dX13_init_282 : decode cX13_init 282 = .ok (.aload_n 0, 1) := by decide +kernel
theorem dX13_init_283 : decode cX13_init 283 = .ok (.sipush 6002, 3) := by decide +kernel
theorem dX13_init_286 : decode cX13_init 286 = .ok (.newarray .int, 2) := by decide +kernel
theorem dX13_init_288 : decode cX13_init 288 = .ok (.putfield 114, 3) := by decide +kernel
theorem dX13_init_291 : decode cX13_init 291 = .ok (.aload_n 0, 1) := by decide +kernel
theorem dX13_init_292 : decode cX13_init 292 = .ok (.sipush 6002, 3) := by decide +kernel
theorem dX13_init_295 : decode cX13_init 295 = .ok (.newarray .int, 2) := by decide +kernel
theorem dX13_init_297 : decode cX13_init 297 = .ok (.putfield 117, 3) := by decide +kernel
theorem dX13_init_300 : decode cX13_init 300 = .ok (.aload_n 0, 1) := by decide +kernel
theorem dX13_init_301 : decode cX13_init 301 = .ok (.sipush 6002, 3) := by decide +kernel
theorem dX13_init_304 : decode cX13_init 304 = .ok (.newarray .int, 2) := by decide +kernel
theorem dX13_init_306 : decode cX13_init 306 = .ok (.putfield 120, 3) := by decide +kernel
theorem dX13_init_309 : decode cX13_init 309 = .ok (.aload_n 0, 1) := by decide +kernel
theorem dX13_init_310 : decode cX13_init 310 = .ok (.sipush 6002, 3) := by decide +kernel
theorem dX13_init_313 : decode cX13_init 313 = .ok (.newarray .int, 2) := by decide +kernel
theorem dX13_init_315 : decode cX13_init 315 = .ok (.putfield 123, 3) := by decide +kernel
theorem dX13_init_318 : decode cX13_init 318 = .ok (.aload_n 0, 1) := by decide +kernel
theorem dX13_init_319 : decode cX13_init 319 = .ok (.sipush 6000, 3) := by decide +kernel
theorem dX13_init_322 : decode cX13_init 322 = .ok (.newarray .int, 2) := by decide +kernel
theorem dX13_init_324 : decode cX13_init 324 = .ok (.putfield 126, 3) := by decide +kernel
theorem dX13_init_327 : decode cX13_init 327 = .ok (.aload_n 0, 1) := by decide +kernel
theorem dX13_init_328 : decode cX13_init 328 = .ok (.sipush 6000, 3) := by decide +kernel
theorem dX13_init_331 : decode cX13_init 331 = .ok (.newarray .int, 2) := by decide +kernel
theorem dX13_init_333 : decode cX13_init 333 = .ok (.putfield 129, 3) := by decide +kernel
theorem dX13_init_336 : decode cX13_init 336 = .ok (.aload_n 0, 1) := by decide +kernel
theorem dX13_init_337 : decode cX13_init 337 = .ok (.iconst 5, 1) := by decide +kernel
theorem dX13_init_338 : decode cX13_init 338 = .ok (.newarray .int, 2) := by decide +kernel
theorem dX13_init_340 : decode cX13_init 340 = .ok (.putfield 132, 3) := by decide +kernel
theorem dX13_init_343 : decode cX13_init 343 = .ok (.aload_n 0, 1) := by decide +kernel
theorem dX13_init_344 : decode cX13_init 344 = .ok (.iconst 5, 1) := by decide +kernel
theorem dX13_init_345 : decode cX13_init 345 = .ok (.newarray .long, 2) := by decide +kernel
theorem dX13_init_347 : decode cX13_init 347 = .ok (.putfield 135, 3) := by decide +kernel
theorem dX13_init_350 : decode cX13_init 350 = .ok (.return_, 1) := by decide +kernel
theorem dX13_thrown_0 : decode cX13_thrown 0 = .ok (.aload_n 0, 1) := by decide +kernel
theorem dX13_thrown_1 : decode cX13_thrown 1 = .ok (.getfield 138, 3) := by decide +kernel
theorem dX13_thrown_4 : decode cX13_thrown 4 = .ok (.ireturn, 1) := by decide +kernel
theorem dX13_isDigit_0 : decode cX13_isDigit 0 = .ok (.iload_n 0, 1) := by decide +kernel
theorem dX13_isDigit_1 : decode cX13_isDigit 1 = .ok (.bipush 48, 2) := by decide +kernel
theorem dX13_isDigit_3 : decode cX13_isDigit 3 = .ok (.if_icmp .lt 13, 3) := by decide +kernel
theorem dX13_isDigit_6 : decode cX13_isDigit 6 = .ok (.iload_n 0, 1) := by decide +kernel
theorem dX13_isDigit_7 : decode cX13_isDigit 7 = .ok (.bipush 57, 2) := by decide +kernel
theorem dX13_isDigit_9 : decode cX13_isDigit 9 = .ok (.if_icmp .gt 7, 3) := by decide +kernel
theorem dX13_isDigit_12 : decode cX13_isDigit 12 = .ok (.iconst 1, 1) := by decide +kernel
theorem dX13_isDigit_13 : decode cX13_isDigit 13 = .ok (.goto 4, 3) := by decide +kernel
theorem dX13_isDigit_16 : decode cX13_isDigit 16 = .ok (.iconst 0, 1) := by decide +kernel
theorem dX13_isDigit_17 : decode cX13_isDigit 17 = .ok (.ireturn, 1) := by decide +kernel
theorem dX13_isLetter_0 : decode cX13_isLetter 0 = .ok (.iload_n 0, 1) := by decide +kernel
theorem dX13_isLetter_1 : decode cX13_isLetter 1 = .ok (.bipush 97, 2) := by decide +kernel
theorem dX13_isLetter_3 : decode cX13_isLetter 3 = .ok (.if_icmp .lt 9, 3) := by decide +kernel
theorem dX13_isLetter_6 : decode cX13_isLetter 6 = .ok (.iload_n 0, 1) := by decide +kernel
theorem dX13_isLetter_7 : decode cX13_isLetter 7 = .ok (.bipush 122, 2) := by decide +kernel
theorem dX13_isLetter_9 : decode cX13_isLetter 9 = .ok (.if_icmp .le 15, 3) := by decide +kernel
theorem dX13_isLetter_12 : decode cX13_isLetter 12 = .ok (.iload_n 0, 1) := by decide +kernel
theorem dX13_isLetter_13 : decode cX13_isLetter 13 = .ok (.bipush 65, 2) := by decide +kernel
theorem dX13_isLetter_15 : decode cX13_isLetter 15 = .ok (.if_icmp .lt 13, 3) := by decide +kernel
theorem dX13_isLetter_18 : decode cX13_isLetter 18 = .ok (.iload_n 0, 1) := by decide +kernel
theorem dX13_isLetter_19 : decode cX13_isLetter 19 = .ok (.bipush 90, 2) := by decide +kernel
theorem dX13_isLetter_21 : decode cX13_isLetter 21 = .ok (.if_icmp .gt 7, 3) := by decide +kernel
theorem dX13_isLetter_24 : decode cX13_isLetter 24 = .ok (.iconst 1, 1) := by decide +kernel
theorem dX13_isLetter_25 : decode cX13_isLetter 25 = .ok (.goto 4, 3) := by decide +kernel
theorem dX13_isLetter_28 : decode cX13_isLetter 28 = .ok (.iconst 0, 1) := by decide +kernel
theorem dX13_isLetter_29 : decode cX13_isLetter 29 = .ok (.ireturn, 1) := by decide +kernel
theorem dX13_isInName_0 : decode cX13_isInName 0 = .ok (.iload_n 0, 1) := by decide +kernel
theorem dX13_isInName_1 : decode cX13_isInName 1 = .ok (.invokestatic 141, 3) := by decide +kernel
theorem dX13_isInName_4 : decode cX13_isInName 4 = .ok (.ifCond .ne 16, 3) := by decide +kernel
theorem dX13_isInName_7 : decode cX13_isInName 7 = .ok (.iload_n 0, 1) := by decide +kernel
theorem dX13_isInName_8 : decode cX13_isInName 8 = .ok (.invokestatic 145, 3) := by decide +kernel
theorem dX13_isInName_11 : decode cX13_isInName 11 = .ok (.ifCond .ne 9, 3) := by decide +kernel
theorem dX13_isInName_14 : decode cX13_isInName 14 = .ok (.iload_n 0, 1) := by decide +kernel
theorem dX13_isInName_15 : decode cX13_isInName 15 = .ok (.bipush 95, 2) := by decide +kernel
theorem dX13_isInName_17 : decode cX13_isInName 17 = .ok (.if_icmp .ne 7, 3) := by decide +kernel
theorem dX13_isInName_20 : decode cX13_isInName 20 = .ok (.iconst 1, 1) := by decide +kernel
theorem dX13_isInName_21 : decode cX13_isInName 21 = .ok (.goto 4, 3) := by decide +kernel
theorem dX13_isInName_24 : decode cX13_isInName 24 = .ok (.iconst 0, 1) := by decide +kernel
theorem dX13_isInName_25 : decode cX13_isInName 25 = .ok (.ireturn, 1) := by decide +kernel
theorem dX13_sixteen_0 : decode cX13_sixteen 0 = .ok (.iload_n 0, 1) := by decide +kernel
theorem dX13_sixteen_1 : decode cX13_sixteen 1 = .ok (.invokestatic 141, 3) := by decide +kernel
theorem dX13_sixteen_4 : decode cX13_sixteen 4 = .ok (.ifCond .eq 10, 3) := by decide +kernel
theorem dX13_sixteen_7 : decode cX13_sixteen 7 = .ok (.iload_n 0, 1) := by decide +kernel
theorem dX13_sixteen_8 : decode cX13_sixteen 8 = .ok (.bipush 48, 2) := by decide +kernel
theorem dX13_sixteen_10 : decode cX13_sixteen 10 = .ok (.isub, 1) := by decide +kernel
theorem dX13_sixteen_11 : decode cX13_sixteen 11 = .ok (.goto 48, 3) := by decide +kernel
theorem dX13_sixteen_14 : decode cX13_sixteen 14 = .ok (.iload_n 0, 1) := by decide +kernel
theorem dX13_sixteen_15 : decode cX13_sixteen 15 = .ok (.bipush 97, 2) := by decide +kernel
theorem dX13_sixteen_17 : decode cX13_sixteen 17 = .ok (.if_icmp .lt 19, 3) := by decide +kernel
theorem dX13_sixteen_20 : decode cX13_sixteen 20 = .ok (.iload_n 0, 1) := by decide +kernel
theorem dX13_sixteen_21 : decode cX13_sixteen 21 = .ok (.bipush 102, 2) := by decide +kernel
theorem dX13_sixteen_23 : decode cX13_sixteen 23 = .ok (.if_icmp .gt 13, 3) := by decide +kernel
theorem dX13_sixteen_26 : decode cX13_sixteen 26 = .ok (.iload_n 0, 1) := by decide +kernel
theorem dX13_sixteen_27 : decode cX13_sixteen 27 = .ok (.bipush 97, 2) := by decide +kernel
theorem dX13_sixteen_29 : decode cX13_sixteen 29 = .ok (.isub, 1) := by decide +kernel
theorem dX13_sixteen_30 : decode cX13_sixteen 30 = .ok (.bipush 10, 2) := by decide +kernel
theorem dX13_sixteen_32 : decode cX13_sixteen 32 = .ok (.iadd, 1) := by decide +kernel
theorem dX13_sixteen_33 : decode cX13_sixteen 33 = .ok (.goto 26, 3) := by decide +kernel
theorem dX13_sixteen_36 : decode cX13_sixteen 36 = .ok (.iload_n 0, 1) := by decide +kernel
theorem dX13_sixteen_37 : decode cX13_sixteen 37 = .ok (.bipush 65, 2) := by decide +kernel
theorem dX13_sixteen_39 : decode cX13_sixteen 39 = .ok (.if_icmp .lt 19, 3) := by decide +kernel
theorem dX13_sixteen_42 : decode cX13_sixteen 42 = .ok (.iload_n 0, 1) := by decide +kernel
theorem dX13_sixteen_43 : decode cX13_sixteen 43 = .ok (.bipush 70, 2) := by decide +kernel
theorem dX13_sixteen_45 : decode cX13_sixteen 45 = .ok (.if_icmp .gt 13, 3) := by decide +kernel
theorem dX13_sixteen_48 : decode cX13_sixteen 48 = .ok (.iload_n 0, 1) := by decide +kernel
theorem dX13_sixteen_49 : decode cX13_sixteen 49 = .ok (.bipush 65, 2) := by decide +kernel
theorem dX13_sixteen_51 : decode cX13_sixteen 51 = .ok (.isub, 1) := by decide +kernel
theorem dX13_sixteen_52 : decode cX13_sixteen 52 = .ok (.bipush 10, 2) := by decide +kernel
theorem dX13_sixteen_54 : decode cX13_sixteen 54 = .ok (.iadd, 1) := by decide +kernel
theorem dX13_sixteen_55 : decode cX13_sixteen 55 = .ok (.goto 4, 3) := by decide +kernel
theorem dX13_sixteen_58 : decode cX13_sixteen 58 = .ok (.iconst (-1), 1) := by decide +kernel
theorem dX13_sixteen_59 : decode cX13_sixteen 59 = .ok (.ireturn, 1) := by decide +kernel
theorem dX13_number_0 : decode cX13_number 0 = .ok (.lconst 0, 1) := by decide +kernel
theorem dX13_number_1 : decode cX13_number 1 = .ok (.lstore_n 3, 1) := by decide +kernel
theorem dX13_number_2 : decode cX13_number 2 = .ok (.iload_n 2, 1) := by decide +kernel
theorem dX13_number_3 : decode cX13_number 3 = .ok (.iload_n 1, 1) := by decide +kernel
theorem dX13_number_4 : decode cX13_number 4 = .ok (.isub, 1) := by decide +kernel
theorem dX13_number_5 : decode cX13_number 5 = .ok (.iconst 1, 1) := by decide +kernel
theorem dX13_number_6 : decode cX13_number 6 = .ok (.if_icmp .le 100, 3) := by decide +kernel
theorem dX13_number_9 : decode cX13_number 9 = .ok (.aload_n 0, 1) := by decide +kernel
theorem dX13_number_10 : decode cX13_number 10 = .ok (.getfield 13, 3) := by decide +kernel
theorem dX13_number_13 : decode cX13_number 13 = .ok (.iload_n 1, 1) := by decide +kernel
theorem dX13_number_14 : decode cX13_number 14 = .ok (.baload, 1) := by decide +kernel
theorem dX13_number_15 : decode cX13_number 15 = .ok (.bipush 48, 2) := by decide +kernel
theorem dX13_number_17 : decode cX13_number 17 = .ok (.if_icmp .ne 89, 3) := by decide +kernel
theorem dX13_number_20 : decode cX13_number 20 = .ok (.aload_n 0, 1) := by decide +kernel
theorem dX13_number_21 : decode cX13_number 21 = .ok (.getfield 13, 3) := by decide +kernel
theorem dX13_number_24 : decode cX13_number 24 = .ok (.iload_n 1, 1) := by decide +kernel
theorem dX13_number_25 : decode cX13_number 25 = .ok (.iconst 1, 1) := by decide +kernel
theorem dX13_number_26 : decode cX13_number 26 = .ok (.iadd, 1) := by decide +kernel
theorem dX13_number_27 : decode cX13_number 27 = .ok (.baload, 1) := by decide +kernel
theorem dX13_number_28 : decode cX13_number 28 = .ok (.bipush 120, 2) := by decide +kernel
theorem dX13_number_30 : decode cX13_number 30 = .ok (.if_icmp .ne 76, 3) := by decide +kernel
theorem dX13_number_33 : decode cX13_number 33 = .ok (.iload_n 2, 1) := by decide +kernel
theorem dX13_number_34 : decode cX13_number 34 = .ok (.iload_n 1, 1) := by decide +kernel
theorem dX13_number_35 : decode cX13_number 35 = .ok (.isub, 1) := by decide +kernel
theorem dX13_number_36 : decode cX13_number 36 = .ok (.iconst 3, 1) := by decide +kernel
theorem dX13_number_37 : decode cX13_number 37 = .ok (.if_icmp .lt 11, 3) := by decide +kernel
theorem dX13_number_40 : decode cX13_number 40 = .ok (.iload_n 2, 1) := by decide +kernel
theorem dX13_number_41 : decode cX13_number 41 = .ok (.iload_n 1, 1) := by decide +kernel
theorem dX13_number_42 : decode cX13_number 42 = .ok (.isub, 1) := by decide +kernel
theorem dX13_number_43 : decode cX13_number 43 = .ok (.bipush 10, 2) := by decide +kernel
theorem dX13_number_45 : decode cX13_number 45 = .ok (.if_icmp .le 7, 3) := by decide +kernel
theorem dX13_number_48 : decode cX13_number 48 = .ok (.ldc2_w 169, 3) := by decide +kernel
theorem dX13_number_51 : decode cX13_number 51 = .ok (.lreturn, 1) := by decide +kernel
theorem dX13_number_52 : decode cX13_number 52 = .ok (.iload_n 1, 1) := by decide +kernel
theorem dX13_number_53 : decode cX13_number 53 = .ok (.iconst 2, 1) := by decide +kernel
theorem dX13_number_54 : decode cX13_number 54 = .ok (.iadd, 1) := by decide +kernel
theorem dX13_number_55 : decode cX13_number 55 = .ok (.istore 5, 2) := by decide +kernel
theorem dX13_number_57 : decode cX13_number 57 = .ok (.iload 5, 2) := by decide +kernel
theorem dX13_number_59 : decode cX13_number 59 = .ok (.iload_n 2, 1) := by decide +kernel
theorem dX13_number_60 : decode cX13_number 60 = .ok (.if_icmp .ge 44, 3) := by decide +kernel
theorem dX13_number_63 : decode cX13_number 63 = .ok (.aload_n 0, 1) := by decide +kernel
theorem dX13_number_64 : decode cX13_number 64 = .ok (.getfield 13, 3) := by decide +kernel
theorem dX13_number_67 : decode cX13_number 67 = .ok (.iload 5, 2) := by decide +kernel
theorem dX13_number_69 : decode cX13_number 69 = .ok (.baload, 1) := by decide +kernel
theorem dX13_number_70 : decode cX13_number 70 = .ok (.invokestatic 171, 3) := by decide +kernel
theorem dX13_number_73 : decode cX13_number 73 = .ok (.ifCond .ge 7, 3) := by decide +kernel
theorem dX13_number_76 : decode cX13_number 76 = .ok (.ldc2_w 169, 3) := by decide +kernel
theorem dX13_number_79 : decode cX13_number 79 = .ok (.lreturn, 1) := by decide +kernel
theorem dX13_number_80 : decode cX13_number 80 = .ok (.ldc2_w 174, 3) := by decide +kernel
theorem dX13_number_83 : decode cX13_number 83 = .ok (.lload_n 3, 1) := by decide +kernel
theorem dX13_number_84 : decode cX13_number 84 = .ok (.lmul, 1) := by decide +kernel
theorem dX13_number_85 : decode cX13_number 85 = .ok (.aload_n 0, 1) := by decide +kernel
theorem dX13_number_86 : decode cX13_number 86 = .ok (.getfield 13, 3) := by decide +kernel
theorem dX13_number_89 : decode cX13_number 89 = .ok (.iload 5, 2) := by decide +kernel
theorem dX13_number_91 : decode cX13_number 91 = .ok (.baload, 1) := by decide +kernel
theorem dX13_number_92 : decode cX13_number 92 = .ok (.invokestatic 171, 3) := by decide +kernel
theorem dX13_number_95 : decode cX13_number 95 = .ok (.i2l, 1) := by decide +kernel
theorem dX13_number_96 : decode cX13_number 96 = .ok (.ladd, 1) := by decide +kernel
theorem dX13_number_97 : decode cX13_number 97 = .ok (.lstore_n 3, 1) := by decide +kernel
theorem dX13_number_98 : decode cX13_number 98 = .ok (.iinc 5 1, 3) := by decide +kernel
theorem dX13_number_101 : decode cX13_number 101 = .ok (.goto (-44), 3) := by decide +kernel
theorem dX13_number_104 : decode cX13_number 104 = .ok (.lload_n 3, 1) := by decide +kernel
theorem dX13_number_105 : decode cX13_number 105 = .ok (.lreturn, 1) := by decide +kernel
theorem dX13_number_106 : decode cX13_number 106 = .ok (.iload_n 2, 1) := by decide +kernel
theorem dX13_number_107 : decode cX13_number 107 = .ok (.iload_n 1, 1) := by decide +kernel
theorem dX13_number_108 : decode cX13_number 108 = .ok (.isub, 1) := by decide +kernel
theorem dX13_number_109 : decode cX13_number 109 = .ok (.bipush 10, 2) := by decide +kernel
theorem dX13_number_111 : decode cX13_number 111 = .ok (.if_icmp .le 7, 3) := by decide +kernel
theorem dX13_number_114 : decode cX13_number 114 = .ok (.ldc2_w 169, 3) := by decide +kernel
theorem dX13_number_117 : decode cX13_number 117 = .ok (.lreturn, 1) := by decide +kernel
theorem dX13_number_118 : decode cX13_number 118 = .ok (.iload_n 1, 1) := by decide +kernel
theorem dX13_number_119 : decode cX13_number 119 = .ok (.istore 5, 2) := by decide +kernel
theorem dX13_number_121 : decode cX13_number 121 = .ok (.iload 5, 2) := by decide +kernel
theorem dX13_number_123 : decode cX13_number 123 = .ok (.iload_n 2, 1) := by decide +kernel
theorem dX13_number_124 : decode cX13_number 124 = .ok (.if_icmp .ge 45, 3) := by decide +kernel
theorem dX13_number_127 : decode cX13_number 127 = .ok (.aload_n 0, 1) := by decide +kernel
theorem dX13_number_128 : decode cX13_number 128 = .ok (.getfield 13, 3) := by decide +kernel
theorem dX13_number_131 : decode cX13_number 131 = .ok (.iload 5, 2) := by decide +kernel
theorem dX13_number_133 : decode cX13_number 133 = .ok (.baload, 1) := by decide +kernel
theorem dX13_number_134 : decode cX13_number 134 = .ok (.invokestatic 141, 3) := by decide +kernel
theorem dX13_number_137 : decode cX13_number 137 = .ok (.ifCond .ne 7, 3) := by decide +kernel
theorem dX13_number_140 : decode cX13_number 140 = .ok (.ldc2_w 169, 3) := by decide +kernel
theorem dX13_number_143 : decode cX13_number 143 = .ok (.lreturn, 1) := by decide +kernel
theorem dX13_number_144 : decode cX13_number 144 = .ok (.ldc2_w 176, 3) := by decide +kernel
theorem dX13_number_147 : decode cX13_number 147 = .ok (.lload_n 3, 1) := by decide +kernel
theorem dX13_number_148 : decode cX13_number 148 = .ok (.lmul, 1) := by decide +kernel
theorem dX13_number_149 : decode cX13_number 149 = .ok (.aload_n 0, 1) := by decide +kernel
theorem dX13_number_150 : decode cX13_number 150 = .ok (.getfield 13, 3) := by decide +kernel
theorem dX13_number_153 : decode cX13_number 153 = .ok (.iload 5, 2) := by decide +kernel
theorem dX13_number_155 : decode cX13_number 155 = .ok (.baload, 1) := by decide +kernel
theorem dX13_number_156 : decode cX13_number 156 = .ok (.i2l, 1) := by decide +kernel
theorem dX13_number_157 : decode cX13_number 157 = .ok (.ladd, 1) := by decide +kernel
theorem dX13_number_158 : decode cX13_number 158 = .ok (.ldc2_w 178, 3) := by decide +kernel
theorem dX13_number_161 : decode cX13_number 161 = .ok (.lsub, 1) := by decide +kernel
theorem dX13_number_162 : decode cX13_number 162 = .ok (.lstore_n 3, 1) := by decide +kernel
theorem dX13_number_163 : decode cX13_number 163 = .ok (.iinc 5 1, 3) := by decide +kernel
theorem dX13_number_166 : decode cX13_number 166 = .ok (.goto (-45), 3) := by decide +kernel
theorem dX13_number_169 : decode cX13_number 169 = .ok (.lload_n 3, 1) := by decide +kernel
theorem dX13_number_170 : decode cX13_number 170 = .ok (.ldc2_w 180, 3) := by decide +kernel
theorem dX13_number_173 : decode cX13_number 173 = .ok (.lcmp, 1) := by decide +kernel
theorem dX13_number_174 : decode cX13_number 174 = .ok (.ifCond .ge 7, 3) := by decide +kernel
theorem dX13_number_177 : decode cX13_number 177 = .ok (.lload_n 3, 1) := by decide +kernel
theorem dX13_number_178 : decode cX13_number 178 = .ok (.goto 6, 3) := by decide +kernel
theorem dX13_number_181 : decode cX13_number 181 = .ok (.ldc2_w 169, 3) := by decide +kernel
theorem dX13_number_184 : decode cX13_number 184 = .ok (.lreturn, 1) := by decide +kernel
theorem dX13_scan_0 : decode cX13_scan 0 = .ok (.aload_n 0, 1) := by decide +kernel
theorem dX13_scan_1 : decode cX13_scan 1 = .ok (.iconst 0, 1) := by decide +kernel
theorem dX13_scan_2 : decode cX13_scan 2 = .ok (.putfield 148, 3) := by decide +kernel
theorem dX13_scan_5 : decode cX13_scan 5 = .ok (.iconst 0, 1) := by decide +kernel
theorem dX13_scan_6 : decode cX13_scan 6 = .ok (.istore_n 2, 1) := by decide +kernel
theorem dX13_scan_7 : decode cX13_scan 7 = .ok (.iload_n 2, 1) := by decide +kernel
theorem dX13_scan_8 : decode cX13_scan 8 = .ok (.aload_n 0, 1) := by decide +kernel
theorem dX13_scan_9 : decode cX13_scan 9 = .ok (.getfield 151, 3) := by decide +kernel
theorem dX13_scan_12 : decode cX13_scan 12 = .ok (.if_icmp .ge 247, 3) := by decide +kernel
theorem dX13_scan_15 : decode cX13_scan 15 = .ok (.aload_n 0, 1) := by decide +kernel
theorem dX13_scan_16 : decode cX13_scan 16 = .ok (.getfield 13, 3) := by decide +kernel
theorem dX13_scan_19 : decode cX13_scan 19 = .ok (.iload_n 2, 1) := by decide +kernel
theorem dX13_scan_20 : decode cX13_scan 20 = .ok (.baload, 1) := by decide +kernel
theorem dX13_scan_21 : decode cX13_scan 21 = .ok (.istore_n 3, 1) := by decide +kernel
theorem dX13_scan_22 : decode cX13_scan 22 = .ok (.iload_n 2, 1) := by decide +kernel
theorem dX13_scan_23 : decode cX13_scan 23 = .ok (.istore 4, 2) := by decide +kernel
theorem dX13_scan_25 : decode cX13_scan 25 = .ok (.iload_n 3, 1) := by decide +kernel
theorem dX13_scan_26 : decode cX13_scan 26 = .ok (.bipush 32, 2) := by decide +kernel
theorem dX13_scan_28 : decode cX13_scan 28 = .ok (.if_icmp .ne 9, 3) := by decide +kernel
theorem dX13_scan_31 : decode cX13_scan 31 = .ok (.iinc 2 1, 3) := by decide +kernel
theorem dX13_scan_34 : decode cX13_scan 34 = .ok (.goto (-27), 3) := by decide +kernel
theorem dX13_scan_37 : decode cX13_scan 37 = .ok (.iload_n 3, 1) := by decide +kernel
theorem dX13_scan_38 : decode cX13_scan 38 = .ok (.bipush 35, 2) := by decide +kernel
theorem dX13_scan_40 : decode cX13_scan 40 = .ok (.if_icmp .ne 28, 3) := by decide +kernel
theorem dX13_scan_43 : decode cX13_scan 43 = .ok (.iload_n 2, 1) := by decide +kernel
theorem dX13_scan_44 : decode cX13_scan 44 = .ok (.aload_n 0, 1) := by decide +kernel
theorem dX13_scan_45 : decode cX13_scan 45 = .ok (.getfield 151, 3) := by decide +kernel
theorem dX13_scan_48 : decode cX13_scan 48 = .ok (.if_icmp .ge (-41), 3) := by decide +kernel
theorem dX13_scan_51 : decode cX13_scan 51 = .ok (.aload_n 0, 1) := by decide +kernel
theorem dX13_scan_52 : decode cX13_scan 52 = .ok (.getfield 13, 3) := by decide +kernel
theorem dX13_scan_55 : decode cX13_scan 55 = .ok (.iload_n 2, 1) := by decide +kernel
theorem dX13_scan_56 : decode cX13_scan 56 = .ok (.baload, 1) := by decide +kernel
theorem dX13_scan_57 : decode cX13_scan 57 = .ok (.bipush 10, 2) := by decide +kernel
theorem dX13_scan_59 : decode cX13_scan 59 = .ok (.if_icmp .eq (-52), 3) := by decide +kernel
theorem dX13_scan_62 : decode cX13_scan 62 = .ok (.iinc 2 1, 3) := by decide +kernel
theorem dX13_scan_65 : decode cX13_scan 65 = .ok (.goto (-22), 3) := by decide +kernel
theorem dX13_scan_68 : decode cX13_scan 68 = .ok (.iconst 5, 1) := by decide +kernel
theorem dX13_scan_69 : decode cX13_scan 69 = .ok (.istore 5, 2) := by decide +kernel
theorem dX13_scan_71 : decode cX13_scan 71 = .ok (.lconst 0, 1) := by decide +kernel
theorem dX13_scan_72 : decode cX13_scan 72 = .ok (.lstore 6, 2) := by decide +kernel
theorem dX13_scan_74 : decode cX13_scan 74 = .ok (.iload_n 3, 1) := by decide +kernel
theorem dX13_scan_75 : decode cX13_scan 75 = .ok (.bipush 10, 2) := by decide +kernel
theorem dX13_scan_77 : decode cX13_scan 77 = .ok (.if_icmp .ne 19, 3) := by decide +kernel
theorem dX13_scan_80 : decode cX13_scan 80 = .ok (.iinc 2 1, 3) := by decide +kernel
theorem dX13_scan_83 : decode cX13_scan 83 = .ok (.iload_n 1, 1) := by decide +kernel
theorem dX13_scan_84 : decode cX13_scan 84 = .ok (.ifCond .ne 6, 3) := by decide +kernel
theorem dX13_scan_87 : decode cX13_scan 87 = .ok (.goto (-80), 3) := by decide +kernel
theorem dX13_scan_90 : decode cX13_scan 90 = .ok (.iconst 4, 1) := by decide +kernel
theorem dX13_scan_91 : decode cX13_scan 91 = .ok (.istore 5, 2) := by decide +kernel
theorem dX13_scan_93 : decode cX13_scan 93 = .ok (.goto 107, 3) := by decide +kernel
theorem dX13_scan_96 : decode cX13_scan 96 = .ok (.iload_n 3, 1) := by decide +kernel
theorem dX13_scan_97 : decode cX13_scan 97 = .ok (.invokestatic 154, 3) := by decide +kernel
theorem dX13_scan_100 : decode cX13_scan 100 = .ok (.ifCond .eq 81, 3) := by decide +kernel
theorem dX13_scan_103 : decode cX13_scan 103 = .ok (.iload_n 2, 1) := by decide +kernel
theorem dX13_scan_104 : decode cX13_scan 104 = .ok (.aload_n 0, 1) := by decide +kernel
theorem dX13_scan_105 : decode cX13_scan 105 = .ok (.getfield 151, 3) := by decide +kernel
theorem dX13_scan_108 : decode cX13_scan 108 = .ok (.if_icmp .ge 21, 3) := by decide +kernel
theorem dX13_scan_111 : decode cX13_scan 111 = .ok (.aload_n 0, 1) := by decide +kernel
theorem dX13_scan_112 : decode cX13_scan 112 = .ok (.getfield 13, 3) := by decide +kernel
theorem dX13_scan_115 : decode cX13_scan 115 = .ok (.iload_n 2, 1) := by decide +kernel
theorem dX13_scan_116 : decode cX13_scan 116 = .ok (.baload, 1) := by decide +kernel
theorem dX13_scan_117 : decode cX13_scan 117 = .ok (.invokestatic 154, 3) := by decide +kernel
theorem dX13_scan_120 : decode cX13_scan 120 = .ok (.ifCond .eq 9, 3) := by decide +kernel
theorem dX13_scan_123 : decode cX13_scan 123 = .ok (.iinc 2 1, 3) := by decide +kernel
theorem dX13_scan_126 : decode cX13_scan 126 = .ok (.goto (-23), 3) := by decide +kernel
theorem dX13_scan_129 : decode cX13_scan 129 = .ok (.iload_n 3, 1) := by decide +kernel
theorem dX13_scan_130 : decode cX13_scan 130 = .ok (.invokestatic 141, 3) := by decide +kernel
theorem dX13_scan_133 : decode cX13_scan 133 = .ok (.ifCond .ne 22, 3) := by decide +kernel
theorem dX13_scan_136 : decode cX13_scan 136 = .ok (.iload_n 2, 1) := by decide +kernel
theorem dX13_scan_137 : decode cX13_scan 137 = .ok (.iload 4, 2) := by decide +kernel
theorem dX13_scan_139 : decode cX13_scan 139 = .ok (.isub, 1) := by decide +kernel
theorem dX13_scan_140 : decode cX13_scan 140 = .ok (.bipush 20, 2) := by decide +kernel
theorem dX13_scan_142 : decode cX13_scan 142 = .ok (.if_icmp .le 7, 3) := by decide +kernel
theorem dX13_scan_145 : decode cX13_scan 145 = .ok (.iconst 5, 1) := by decide +kernel
theorem dX13_scan_146 : decode cX13_scan 146 = .ok (.goto 4, 3) := by decide +kernel
theorem dX13_scan_149 : decode cX13_scan 149 = .ok (.iconst 1, 1) := by decide +kernel
theorem dX13_scan_150 : decode cX13_scan 150 = .ok (.istore 5, 2) := by decide +kernel
theorem dX13_scan_152 : decode cX13_scan 152 = .ok (.goto 48, 3) := by decide +kernel
theorem dX13_scan_155 : decode cX13_scan 155 = .ok (.aload_n 0, 1) := by decide +kernel
theorem dX13_scan_156 : decode cX13_scan 156 = .ok (.iload 4, 2) := by decide +kernel
theorem dX13_scan_158 : decode cX13_scan 158 = .ok (.iload_n 2, 1) := by decide +kernel
theorem dX13_scan_159 : decode cX13_scan 159 = .ok (.invokevirtual 157, 3) := by decide +kernel
theorem dX13_scan_162 : decode cX13_scan 162 = .ok (.lstore 6, 2) := by decide +kernel
theorem dX13_scan_164 : decode cX13_scan 164 = .ok (.lload 6, 2) := by decide +kernel
theorem dX13_scan_166 : decode cX13_scan 166 = .ok (.lconst 0, 1) := by decide +kernel
theorem dX13_scan_167 : decode cX13_scan 167 = .ok (.lcmp, 1) := by decide +kernel
theorem dX13_scan_168 : decode cX13_scan 168 = .ok (.ifCond .ge 7, 3) := by decide +kernel
theorem dX13_scan_171 : decode cX13_scan 171 = .ok (.iconst 5, 1) := by decide +kernel
theorem dX13_scan_172 : decode cX13_scan 172 = .ok (.goto 4, 3) := by decide +kernel
theorem dX13_scan_175 : decode cX13_scan 175 = .ok (.iconst 2, 1) := by decide +kernel
theorem dX13_scan_176 : decode cX13_scan 176 = .ok (.istore 5, 2) := by decide +kernel
theorem dX13_scan_178 : decode cX13_scan 178 = .ok (.goto 22, 3) := by decide +kernel
theorem dX13_scan_181 : decode cX13_scan 181 = .ok (.iinc 2 1, 3) := by decide +kernel
theorem dX13_scan_184 : decode cX13_scan 184 = .ok (.ldc 161, 2) := by decide +kernel
theorem dX13_scan_186 : decode cX13_scan 186 = .ok (.iload_n 3, 1) := by decide +kernel
theorem dX13_scan_187 : decode cX13_scan 187 = .ok (.invokevirtual 163, 3) := by decide +kernel
theorem dX13_scan_190 : decode cX13_scan 190 = .ok (.ifCond .lt 6, 3) := by decide +kernel
theorem dX13_scan_193 : decode cX13_scan 193 = .ok (.iconst 3, 1) := by decide +kernel
theorem dX13_scan_194 : decode cX13_scan 194 = .ok (.istore 5, 2) := by decide +kernel
theorem dX13_scan_196 : decode cX13_scan 196 = .ok (.iload_n 3, 1) := by decide +kernel
theorem dX13_scan_197 : decode cX13_scan 197 = .ok (.i2l, 1) := by decide +kernel
theorem dX13_scan_198 : decode cX13_scan 198 = .ok (.lstore 6, 2) := by decide +kernel
theorem dX13_scan_200 : decode cX13_scan 200 = .ok (.aload_n 0, 1) := by decide +kernel
theorem dX13_scan_201 : decode cX13_scan 201 = .ok (.getfield 26, 3) := by decide +kernel
theorem dX13_scan_204 : decode cX13_scan 204 = .ok (.aload_n 0, 1) := by decide +kernel
theorem dX13_scan_205 : decode cX13_scan 205 = .ok (.getfield 148, 3) := by decide +kernel
theorem dX13_scan_208 : decode cX13_scan 208 = .ok (.iload 5, 2) := by decide +kernel
theorem dX13_scan_210 : decode cX13_scan 210 = .ok (.iastore, 1) := by decide +kernel
theorem dX13_scan_211 : decode cX13_scan 211 = .ok (.aload_n 0, 1) := by decide +kernel
theorem dX13_scan_212 : decode cX13_scan 212 = .ok (.getfield 30, 3) := by decide +kernel
theorem dX13_scan_215 : decode cX13_scan 215 = .ok (.aload_n 0, 1) := by decide +kernel
theorem dX13_scan_216 : decode cX13_scan 216 = .ok (.getfield 148, 3) := by decide +kernel
theorem dX13_scan_219 : decode cX13_scan 219 = .ok (.iload 4, 2) := by decide +kernel
theorem dX13_scan_221 : decode cX13_scan 221 = .ok (.iastore, 1) := by decide +kernel
theorem dX13_scan_222 : decode cX13_scan 222 = .ok (.aload_n 0, 1) := by decide +kernel
theorem dX13_scan_223 : decode cX13_scan 223 = .ok (.getfield 33, 3) := by decide +kernel
theorem dX13_scan_226 : decode cX13_scan 226 = .ok (.aload_n 0, 1) := by decide +kernel
theorem dX13_scan_227 : decode cX13_scan 227 = .ok (.getfield 148, 3) := by decide +kernel
theorem dX13_scan_230 : decode cX13_scan 230 = .ok (.iload_n 2, 1) := by decide +kernel
theorem dX13_scan_231 : decode cX13_scan 231 = .ok (.iload 4, 2) := by decide +kernel
theorem dX13_scan_233 : decode cX13_scan 233 = .ok (.isub, 1) := by decide +kernel
theorem dX13_scan_234 : decode cX13_scan 234 = .ok (.iastore, 1) := by decide +kernel
theorem dX13_scan_235 : decode cX13_scan 235 = .ok (.aload_n 0, 1) := by decide +kernel
theorem dX13_scan_236 : decode cX13_scan 236 = .ok (.getfield 36, 3) := by decide +kernel
theorem dX13_scan_239 : decode cX13_scan 239 = .ok (.aload_n 0, 1) := by decide +kernel
theorem dX13_scan_240 : decode cX13_scan 240 = .ok (.getfield 148, 3) := by decide +kernel
theorem dX13_scan_243 : decode cX13_scan 243 = .ok (.lload 6, 2) := by decide +kernel
theorem dX13_scan_245 : decode cX13_scan 245 = .ok (.lastore, 1) := by decide +kernel
theorem dX13_scan_246 : decode cX13_scan 246 = .ok (.aload_n 0, 1) := by decide +kernel
theorem dX13_scan_247 : decode cX13_scan 247 = .ok (.dup, 1) := by decide +kernel
theorem dX13_scan_248 : decode cX13_scan 248 = .ok (.getfield 148, 3) := by decide +kernel
theorem dX13_scan_251 : decode cX13_scan 251 = .ok (.iconst 1, 1) := by decide +kernel
theorem dX13_scan_252 : decode cX13_scan 252 = .ok (.iadd, 1) := by decide +kernel
theorem dX13_scan_253 : decode cX13_scan 253 = .ok (.putfield 148, 3) := by decide +kernel
theorem dX13_scan_256 : decode cX13_scan 256 = .ok (.goto (-249), 3) := by decide +kernel
theorem dX13_scan_259 : decode cX13_scan 259 = .ok (.aload_n 0, 1) := by decide +kernel
theorem dX13_scan_260 : decode cX13_scan 260 = .ok (.getfield 26, 3) := by decide +kernel
theorem dX13_scan_263 : decode cX13_scan 263 = .ok (.aload_n 0, 1) := by decide +kernel
theorem dX13_scan_264 : decode cX13_scan 264 = .ok (.getfield 148, 3) := by decide +kernel
theorem dX13_scan_267 : decode cX13_scan 267 = .ok (.iconst 0, 1) := by decide +kernel
theorem dX13_scan_268 : decode cX13_scan 268 = .ok (.iastore, 1) := by decide +kernel
theorem dX13_scan_269 : decode cX13_scan 269 = .ok (.aload_n 0, 1) := by decide +kernel
theorem dX13_scan_270 : decode cX13_scan 270 = .ok (.getfield 33, 3) := by decide +kernel
theorem dX13_scan_273 : decode cX13_scan 273 = .ok (.aload_n 0, 1) := by decide +kernel
theorem dX13_scan_274 : decode cX13_scan 274 = .ok (.getfield 148, 3) := by decide +kernel
theorem dX13_scan_277 : decode cX13_scan 277 = .ok (.iconst 0, 1) := by decide +kernel
theorem dX13_scan_278 : decode cX13_scan 278 = .ok (.iastore, 1) := by decide +kernel
theorem dX13_scan_279 : decode cX13_scan 279 = .ok (.aload_n 0, 1) := by decide +kernel
theorem dX13_scan_280 : decode cX13_scan 280 = .ok (.getfield 26, 3) := by decide +kernel
theorem dX13_scan_283 : decode cX13_scan 283 = .ok (.aload_n 0, 1) := by decide +kernel
theorem dX13_scan_284 : decode cX13_scan 284 = .ok (.getfield 148, 3) := by decide +kernel
theorem dX13_scan_287 : decode cX13_scan 287 = .ok (.iconst 1, 1) := by decide +kernel
theorem dX13_scan_288 : decode cX13_scan 288 = .ok (.iadd, 1) := by decide +kernel
theorem dX13_scan_289 : decode cX13_scan 289 = .ok (.iconst 0, 1) := by decide +kernel
theorem dX13_scan_290 : decode cX13_scan 290 = .ok (.iastore, 1) := by decide +kernel
theorem dX13_scan_291 : decode cX13_scan 291 = .ok (.aload_n 0, 1) := by decide +kernel
theorem dX13_scan_292 : decode cX13_scan 292 = .ok (.getfield 33, 3) := by decide +kernel
theorem dX13_scan_295 : decode cX13_scan 295 = .ok (.aload_n 0, 1) := by decide +kernel
theorem dX13_scan_296 : decode cX13_scan 296 = .ok (.getfield 148, 3) := by decide +kernel
theorem dX13_scan_299 : decode cX13_scan 299 = .ok (.iconst 1, 1) := by decide +kernel
theorem dX13_scan_300 : decode cX13_scan 300 = .ok (.iadd, 1) := by decide +kernel
theorem dX13_scan_301 : decode cX13_scan 301 = .ok (.iconst 0, 1) := by decide +kernel
theorem dX13_scan_302 : decode cX13_scan 302 = .ok (.iastore, 1) := by decide +kernel
theorem dX13_scan_303 : decode cX13_scan 303 = .ok (.return_, 1) := by decide +kernel
theorem dX13_isSign_0 : decode cX13_isSign 0 = .ok (.aload_n 0, 1) := by decide +kernel
theorem dX13_isSign_1 : decode cX13_isSign 1 = .ok (.getfield 26, 3) := by decide +kernel
theorem dX13_isSign_4 : decode cX13_isSign 4 = .ok (.iload_n 1, 1) := by decide +kernel
theorem dX13_isSign_5 : decode cX13_isSign 5 = .ok (.iaload, 1) := by decide +kernel
theorem dX13_isSign_6 : decode cX13_isSign 6 = .ok (.iconst 3, 1) := by decide +kernel
theorem dX13_isSign_7 : decode cX13_isSign 7 = .ok (.if_icmp .ne 19, 3) := by decide +kernel
theorem dX13_isSign_10 : decode cX13_isSign 10 = .ok (.aload_n 0, 1) := by decide +kernel
theorem dX13_isSign_11 : decode cX13_isSign 11 = .ok (.getfield 36, 3) := by decide +kernel
theorem dX13_isSign_14 : decode cX13_isSign 14 = .ok (.iload_n 1, 1) := by decide +kernel
theorem dX13_isSign_15 : decode cX13_isSign 15 = .ok (.laload, 1) := by decide +kernel
theorem dX13_isSign_16 : decode cX13_isSign 16 = .ok (.iload_n 2, 1) := by decide +kernel
theorem dX13_isSign_17 : decode cX13_isSign 17 = .ok (.i2l, 1) := by decide +kernel
theorem dX13_isSign_18 : decode cX13_isSign 18 = .ok (.lcmp, 1) := by decide +kernel
theorem dX13_isSign_19 : decode cX13_isSign 19 = .ok (.ifCond .ne 7, 3) := by decide +kernel
theorem dX13_isSign_22 : decode cX13_isSign 22 = .ok (.iconst 1, 1) := by decide +kernel
theorem dX13_isSign_23 : decode cX13_isSign 23 = .ok (.goto 4, 3) := by decide +kernel
theorem dX13_isSign_26 : decode cX13_isSign 26 = .ok (.iconst 0, 1) := by decide +kernel
theorem dX13_isSign_27 : decode cX13_isSign 27 = .ok (.ireturn, 1) := by decide +kernel
theorem dX13_isWord_0 : decode cX13_isWord 0 = .ok (.aload_n 0, 1) := by decide +kernel
theorem dX13_isWord_1 : decode cX13_isWord 1 = .ok (.getfield 26, 3) := by decide +kernel
theorem dX13_isWord_4 : decode cX13_isWord 4 = .ok (.iload_n 1, 1) := by decide +kernel
theorem dX13_isWord_5 : decode cX13_isWord 5 = .ok (.iaload, 1) := by decide +kernel
theorem dX13_isWord_6 : decode cX13_isWord 6 = .ok (.iconst 1, 1) := by decide +kernel
theorem dX13_isWord_7 : decode cX13_isWord 7 = .ok (.if_icmp .ne 16, 3) := by decide +kernel
theorem dX13_isWord_10 : decode cX13_isWord 10 = .ok (.aload_n 0, 1) := by decide +kernel
theorem dX13_isWord_11 : decode cX13_isWord 11 = .ok (.getfield 33, 3) := by decide +kernel
theorem dX13_isWord_14 : decode cX13_isWord 14 = .ok (.iload_n 1, 1) := by decide +kernel
theorem dX13_isWord_15 : decode cX13_isWord 15 = .ok (.iaload, 1) := by decide +kernel
theorem dX13_isWord_16 : decode cX13_isWord 16 = .ok (.aload_n 2, 1) := by decide +kernel
theorem dX13_isWord_17 : decode cX13_isWord 17 = .ok (.invokevirtual 182, 3) := by decide +kernel
theorem dX13_isWord_20 : decode cX13_isWord 20 = .ok (.if_icmp .eq 5, 3) := by decide +kernel
theorem dX13_isWord_23 : decode cX13_isWord 23 = .ok (.iconst 0, 1) := by decide +kernel
theorem dX13_isWord_24 : decode cX13_isWord 24 = .ok (.ireturn, 1) := by decide +kernel
theorem dX13_isWord_25 : decode cX13_isWord 25 = .ok (.iconst 0, 1) := by decide +kernel
theorem dX13_isWord_26 : decode cX13_isWord 26 = .ok (.istore_n 3, 1) := by decide +kernel
theorem dX13_isWord_27 : decode cX13_isWord 27 = .ok (.iload_n 3, 1) := by decide +kernel
theorem dX13_isWord_28 : decode cX13_isWord 28 = .ok (.aload_n 2, 1) := by decide +kernel
theorem dX13_isWord_29 : decode cX13_isWord 29 = .ok (.invokevirtual 182, 3) := by decide +kernel
theorem dX13_isWord_32 : decode cX13_isWord 32 = .ok (.if_icmp .ge 32, 3) := by decide +kernel
theorem dX13_isWord_35 : decode cX13_isWord 35 = .ok (.aload_n 0, 1) := by decide +kernel
theorem dX13_isWord_36 : decode cX13_isWord 36 = .ok (.getfield 13, 3) := by decide +kernel
theorem dX13_isWord_39 : decode cX13_isWord 39 = .ok (.aload_n 0, 1) := by decide +kernel
theorem dX13_isWord_40 : decode cX13_isWord 40 = .ok (.getfield 30, 3) := by decide +kernel
theorem dX13_isWord_43 : decode cX13_isWord 43 = .ok (.iload_n 1, 1) := by decide +kernel
theorem dX13_isWord_44 : decode cX13_isWord 44 = .ok (.iaload, 1) := by decide +kernel
theorem dX13_isWord_45 : decode cX13_isWord 45 = .ok (.iload_n 3, 1) := by decide +kernel
theorem dX13_isWord_46 : decode cX13_isWord 46 = .ok (.iadd, 1) := by decide +kernel
theorem dX13_isWord_47 : decode cX13_isWord 47 = .ok (.baload, 1) := by decide +kernel
theorem dX13_isWord_48 : decode cX13_isWord 48 = .ok (.aload_n 2, 1) := by decide +kernel
theorem dX13_isWord_49 : decode cX13_isWord 49 = .ok (.iload_n 3, 1) := by decide +kernel
theorem dX13_isWord_50 : decode cX13_isWord 50 = .ok (.invokevirtual 186, 3) := by decide +kernel
theorem dX13_isWord_53 : decode cX13_isWord 53 = .ok (.if_icmp .eq 5, 3) := by decide +kernel
theorem dX13_isWord_56 : decode cX13_isWord 56 = .ok (.iconst 0, 1) := by decide +kernel
theorem dX13_isWord_57 : decode cX13_isWord 57 = .ok (.ireturn, 1) := by decide +kernel
theorem dX13_isWord_58 : decode cX13_isWord 58 = .ok (.iinc 3 1, 3) := by decide +kernel
theorem dX13_isWord_61 : decode cX13_isWord 61 = .ok (.goto (-34), 3) := by decide +kernel
theorem dX13_isWord_64 : decode cX13_isWord 64 = .ok (.iconst 1, 1) := by decide +kernel
theorem dX13_isWord_65 : decode cX13_isWord 65 = .ok (.ireturn, 1) := by decide +kernel
theorem dX13_isName_0 : decode cX13_isName 0 = .ok (.aload_n 0, 1) := by decide +kernel
theorem dX13_isName_1 : decode cX13_isName 1 = .ok (.getfield 47, 3) := by decide +kernel
theorem dX13_isName_4 : decode cX13_isName 4 = .ok (.iload_n 1, 1) := by decide +kernel
theorem dX13_isName_5 : decode cX13_isName 5 = .ok (.iaload, 1) := by decide +kernel
theorem dX13_isName_6 : decode cX13_isName 6 = .ok (.aload_n 0, 1) := by decide +kernel
theorem dX13_isName_7 : decode cX13_isName 7 = .ok (.getfield 33, 3) := by decide +kernel
theorem dX13_isName_10 : decode cX13_isName 10 = .ok (.iload_n 2, 1) := by decide +kernel
theorem dX13_isName_11 : decode cX13_isName 11 = .ok (.iaload, 1) := by decide +kernel
theorem dX13_isName_12 : decode cX13_isName 12 = .ok (.if_icmp .eq 5, 3) := by decide +kernel
theorem dX13_isName_15 : decode cX13_isName 15 = .ok (.iconst 0, 1) := by decide +kernel
theorem dX13_isName_16 : decode cX13_isName 16 = .ok (.ireturn, 1) := by decide +kernel
theorem dX13_isName_17 : decode cX13_isName 17 = .ok (.iconst 0, 1) := by decide +kernel
theorem dX13_isName_18 : decode cX13_isName 18 = .ok (.istore_n 3, 1) := by decide +kernel
theorem dX13_isName_19 : decode cX13_isName 19 = .ok (.iload_n 3, 1) := by decide +kernel
theorem dX13_isName_20 : decode cX13_isName 20 = .ok (.aload_n 0, 1) := by decide +kernel
theorem dX13_isName_21 : decode cX13_isName 21 = .ok (.getfield 33, 3) := by decide +kernel
theorem dX13_isName_24 : decode cX13_isName 24 = .ok (.iload_n 2, 1) := by decide +kernel
theorem dX13_isName_25 : decode cX13_isName 25 = .ok (.iaload, 1) := by decide +kernel
theorem dX13_isName_26 : decode cX13_isName 26 = .ok (.if_icmp .ge 40, 3) := by decide +kernel
theorem dX13_isName_29 : decode cX13_isName 29 = .ok (.aload_n 0, 1) := by decide +kernel
theorem dX13_isName_30 : decode cX13_isName 30 = .ok (.getfield 41, 3) := by decide +kernel
theorem dX13_isName_33 : decode cX13_isName 33 = .ok (.aload_n 0, 1) := by decide +kernel
theorem dX13_isName_34 : decode cX13_isName 34 = .ok (.getfield 44, 3) := by decide +kernel
theorem dX13_isName_37 : decode cX13_isName 37 = .ok (.iload_n 1, 1) := by decide +kernel
theorem dX13_isName_38 : decode cX13_isName 38 = .ok (.iaload, 1) := by decide +kernel
theorem dX13_isName_39 : decode cX13_isName 39 = .ok (.iload_n 3, 1) := by decide +kernel
theorem dX13_isName_40 : decode cX13_isName 40 = .ok (.iadd, 1) := by decide +kernel
theorem dX13_isName_41 : decode cX13_isName 41 = .ok (.baload, 1) := by decide +kernel
theorem dX13_isName_42 : decode cX13_isName 42 = .ok (.aload_n 0, 1) := by decide +kernel
theorem dX13_isName_43 : decode cX13_isName 43 = .ok (.getfield 13, 3) := by decide +kernel
theorem dX13_isName_46 : decode cX13_isName 46 = .ok (.aload_n 0, 1) := by decide +kernel
theorem dX13_isName_47 : decode cX13_isName 47 = .ok (.getfield 30, 3) := by decide +kernel
theorem dX13_isName_50 : decode cX13_isName 50 = .ok (.iload_n 2, 1) := by decide +kernel
theorem dX13_isName_51 : decode cX13_isName 51 = .ok (.iaload, 1) := by decide +kernel
theorem dX13_isName_52 : decode cX13_isName 52 = .ok (.iload_n 3, 1) := by decide +kernel
theorem dX13_isName_53 : decode cX13_isName 53 = .ok (.iadd, 1) := by decide +kernel
theorem dX13_isName_54 : decode cX13_isName 54 = .ok (.baload, 1) := by decide +kernel
theorem dX13_isName_55 : decode cX13_isName 55 = .ok (.if_icmp .eq 5, 3) := by decide +kernel
theorem dX13_isName_58 : decode cX13_isName 58 = .ok (.iconst 0, 1) := by decide +kernel
theorem dX13_isName_59 : decode cX13_isName 59 = .ok (.ireturn, 1) := by decide +kernel
theorem dX13_isName_60 : decode cX13_isName 60 = .ok (.iinc 3 1, 3) := by decide +kernel
theorem dX13_isName_63 : decode cX13_isName 63 = .ok (.goto (-44), 3) := by decide +kernel
theorem dX13_isName_66 : decode cX13_isName 66 = .ok (.iconst 1, 1) := by decide +kernel
theorem dX13_isName_67 : decode cX13_isName 67 = .ok (.ireturn, 1) := by decide +kernel
theorem dX13_nameOf_0 : decode cX13_nameOf 0 = .ok (.iconst 0, 1) := by decide +kernel
theorem dX13_nameOf_1 : decode cX13_nameOf 1 = .ok (.istore_n 2, 1) := by decide +kernel
theorem dX13_nameOf_2 : decode cX13_nameOf 2 = .ok (.iload_n 2, 1) := by decide +kernel
theorem dX13_nameOf_3 : decode cX13_nameOf 3 = .ok (.aload_n 0, 1) := by decide +kernel
theorem dX13_nameOf_4 : decode cX13_nameOf 4 = .ok (.getfield 190, 3) := by decide +kernel
theorem dX13_nameOf_7 : decode cX13_nameOf 7 = .ok (.if_icmp .ge 20, 3) := by decide +kernel
theorem dX13_nameOf_10 : decode cX13_nameOf 10 = .ok (.aload_n 0, 1) := by decide +kernel
theorem dX13_nameOf_11 : decode cX13_nameOf 11 = .ok (.iload_n 2, 1) := by decide +kernel
theorem dX13_nameOf_12 : decode cX13_nameOf 12 = .ok (.iload_n 1, 1) := by decide +kernel
theorem dX13_nameOf_13 : decode cX13_nameOf 13 = .ok (.invokevirtual 193, 3) := by decide +kernel
theorem dX13_nameOf_16 : decode cX13_nameOf 16 = .ok (.ifCond .eq 5, 3) := by decide +kernel
theorem dX13_nameOf_19 : decode cX13_nameOf 19 = .ok (.iload_n 2, 1) := by decide +kernel
theorem dX13_nameOf_20 : decode cX13_nameOf 20 = .ok (.ireturn, 1) := by decide +kernel
theorem dX13_nameOf_21 : decode cX13_nameOf 21 = .ok (.iinc 2 1, 3) := by decide +kernel
theorem dX13_nameOf_24 : decode cX13_nameOf 24 = .ok (.goto (-22), 3) := by decide +kernel
theorem dX13_nameOf_27 : decode cX13_nameOf 27 = .ok (.aload_n 0, 1) := by decide +kernel
theorem dX13_nameOf_28 : decode cX13_nameOf 28 = .ok (.getfield 44, 3) := by decide +kernel
theorem dX13_nameOf_31 : decode cX13_nameOf 31 = .ok (.aload_n 0, 1) := by decide +kernel
theorem dX13_nameOf_32 : decode cX13_nameOf 32 = .ok (.getfield 190, 3) := by decide +kernel
theorem dX13_nameOf_35 : decode cX13_nameOf 35 = .ok (.aload_n 0, 1) := by decide +kernel
theorem dX13_nameOf_36 : decode cX13_nameOf 36 = .ok (.getfield 197, 3) := by decide +kernel
theorem dX13_nameOf_39 : decode cX13_nameOf 39 = .ok (.iastore, 1) := by decide +kernel
theorem dX13_nameOf_40 : decode cX13_nameOf 40 = .ok (.aload_n 0, 1) := by decide +kernel
theorem dX13_nameOf_41 : decode cX13_nameOf 41 = .ok (.getfield 47, 3) := by decide +kernel
theorem dX13_nameOf_44 : decode cX13_nameOf 44 = .ok (.aload_n 0, 1) := by decide +kernel
theorem dX13_nameOf_45 : decode cX13_nameOf 45 = .ok (.getfield 190, 3) := by decide +kernel
theorem dX13_nameOf_48 : decode cX13_nameOf 48 = .ok (.aload_n 0, 1) := by decide +kernel
theorem dX13_nameOf_49 : decode cX13_nameOf 49 = .ok (.getfield 33, 3) := by decide +kernel
theorem dX13_nameOf_52 : decode cX13_nameOf 52 = .ok (.iload_n 1, 1) := by decide +kernel
theorem dX13_nameOf_53 : decode cX13_nameOf 53 = .ok (.iaload, 1) := by decide +kernel
theorem dX13_nameOf_54 : decode cX13_nameOf 54 = .ok (.iastore, 1) := by decide +kernel
theorem dX13_nameOf_55 : decode cX13_nameOf 55 = .ok (.aload_n 0, 1) := by decide +kernel
theorem dX13_nameOf_56 : decode cX13_nameOf 56 = .ok (.getfield 13, 3) := by decide +kernel
theorem dX13_nameOf_59 : decode cX13_nameOf 59 = .ok (.aload_n 0, 1) := by decide +kernel
theorem dX13_nameOf_60 : decode cX13_nameOf 60 = .ok (.getfield 30, 3) := by decide +kernel
theorem dX13_nameOf_63 : decode cX13_nameOf 63 = .ok (.iload_n 1, 1) := by decide +kernel
theorem dX13_nameOf_64 : decode cX13_nameOf 64 = .ok (.iaload, 1) := by decide +kernel
theorem dX13_nameOf_65 : decode cX13_nameOf 65 = .ok (.aload_n 0, 1) := by decide +kernel
theorem dX13_nameOf_66 : decode cX13_nameOf 66 = .ok (.getfield 41, 3) := by decide +kernel
theorem dX13_nameOf_69 : decode cX13_nameOf 69 = .ok (.aload_n 0, 1) := by decide +kernel
theorem dX13_nameOf_70 : decode cX13_nameOf 70 = .ok (.getfield 197, 3) := by decide +kernel
theorem dX13_nameOf_73 : decode cX13_nameOf 73 = .ok (.aload_n 0, 1) := by decide +kernel
theorem dX13_nameOf_74 : decode cX13_nameOf 74 = .ok (.getfield 33, 3) := by decide +kernel
theorem dX13_nameOf_77 : decode cX13_nameOf 77 = .ok (.iload_n 1, 1) := by decide +kernel
theorem dX13_nameOf_78 : decode cX13_nameOf 78 = .ok (.iaload, 1) := by decide +kernel
theorem dX13_nameOf_79 : decode cX13_nameOf 79 = .ok (.invokestatic 200, 3) := by decide +kernel
theorem dX13_nameOf_82 : decode cX13_nameOf 82 = .ok (.aload_n 0, 1) := by decide +kernel
theorem dX13_nameOf_83 : decode cX13_nameOf 83 = .ok (.dup, 1) := by decide +kernel
theorem dX13_nameOf_84 : decode cX13_nameOf 84 = .ok (.getfield 197, 3) := by decide +kernel
theorem dX13_nameOf_87 : decode cX13_nameOf 87 = .ok (.aload_n 0, 1) := by decide +kernel
theorem dX13_nameOf_88 : decode cX13_nameOf 88 = .ok (.getfield 33, 3) := by decide +kernel
theorem dX13_nameOf_91 : decode cX13_nameOf 91 = .ok (.iload_n 1, 1) := by decide +kernel
theorem dX13_nameOf_92 : decode cX13_nameOf 92 = .ok (.iaload, 1) := by decide +kernel
theorem dX13_nameOf_93 : decode cX13_nameOf 93 = .ok (.iadd, 1) := by decide +kernel
theorem dX13_nameOf_94 : decode cX13_nameOf 94 = .ok (.putfield 197, 3) := by decide +kernel
theorem dX13_nameOf_97 : decode cX13_nameOf 97 = .ok (.aload_n 0, 1) := by decide +kernel
theorem dX13_nameOf_98 : decode cX13_nameOf 98 = .ok (.dup, 1) := by decide +kernel
theorem dX13_nameOf_99 : decode cX13_nameOf 99 = .ok (.getfield 190, 3) := by decide +kernel
theorem dX13_nameOf_102 : decode cX13_nameOf 102 = .ok (.iconst 1, 1) := by decide +kernel
theorem dX13_nameOf_103 : decode cX13_nameOf 103 = .ok (.iadd, 1) := by decide +kernel
theorem dX13_nameOf_104 : decode cX13_nameOf 104 = .ok (.putfield 190, 3) := by decide +kernel
theorem dX13_nameOf_107 : decode cX13_nameOf 107 = .ok (.aload_n 0, 1) := by decide +kernel
theorem dX13_nameOf_108 : decode cX13_nameOf 108 = .ok (.getfield 190, 3) := by decide +kernel
theorem dX13_nameOf_111 : decode cX13_nameOf 111 = .ok (.iconst 1, 1) := by decide +kernel
theorem dX13_nameOf_112 : decode cX13_nameOf 112 = .ok (.isub, 1) := by decide +kernel
theorem dX13_nameOf_113 : decode cX13_nameOf 113 = .ok (.ireturn, 1) := by decide +kernel
theorem dX13_expectName_0 : decode cX13_expectName 0 = .ok (.aload_n 0, 1) := by decide +kernel
theorem dX13_expectName_1 : decode cX13_expectName 1 = .ok (.getfield 26, 3) := by decide +kernel
theorem dX13_expectName_4 : decode cX13_expectName 4 = .ok (.aload_n 0, 1) := by decide +kernel
theorem dX13_expectName_5 : decode cX13_expectName 5 = .ok (.getfield 206, 3) := by decide +kernel
theorem dX13_expectName_8 : decode cX13_expectName 8 = .ok (.iaload, 1) := by decide +kernel
theorem dX13_expectName_9 : decode cX13_expectName 9 = .ok (.iconst 1, 1) := by decide +kernel
theorem dX13_expectName_10 : decode cX13_expectName 10 = .ok (.if_icmp .eq 16, 3) := by decide +kernel
theorem dX13_expectName_13 : decode cX13_expectName 13 = .ok (.new 209, 3) := by decide +kernel
theorem dX13_expectName_16 : decode cX13_expectName 16 = .ok (.dup, 1) := by decide +kernel
theorem dX13_expectName_17 : decode cX13_expectName 17 = .ok (.iconst 1, 1) := by decide +kernel
theorem dX13_expectName_18 : decode cX13_expectName 18 = .ok (.aload_n 0, 1) := by decide +kernel
theorem dX13_expectName_19 : decode cX13_expectName 19 = .ok (.getfield 206, 3) := by decide +kernel
theorem dX13_expectName_22 : decode cX13_expectName 22 = .ok (.invokespecial 211, 3) := by decide +kernel
theorem dX13_expectName_25 : decode cX13_expectName 25 = .ok (.athrow, 1) := by decide +kernel
theorem dX13_expectName_26 : decode cX13_expectName 26 = .ok (.aload_n 0, 1) := by decide +kernel
theorem dX13_expectName_27 : decode cX13_expectName 27 = .ok (.dup, 1) := by decide +kernel
theorem dX13_expectName_28 : decode cX13_expectName 28 = .ok (.getfield 206, 3) := by decide +kernel
theorem dX13_expectName_31 : decode cX13_expectName 31 = .ok (.iconst 1, 1) := by decide +kernel
theorem dX13_expectName_32 : decode cX13_expectName 32 = .ok (.iadd, 1) := by decide +kernel
theorem dX13_expectName_33 : decode cX13_expectName 33 = .ok (.putfield 206, 3) := by decide +kernel
theorem dX13_expectName_36 : decode cX13_expectName 36 = .ok (.aload_n 0, 1) := by decide +kernel
theorem dX13_expectName_37 : decode cX13_expectName 37 = .ok (.getfield 206, 3) := by decide +kernel
theorem dX13_expectName_40 : decode cX13_expectName 40 = .ok (.iconst 1, 1) := by decide +kernel
theorem dX13_expectName_41 : decode cX13_expectName 41 = .ok (.isub, 1) := by decide +kernel
theorem dX13_expectName_42 : decode cX13_expectName 42 = .ok (.ireturn, 1) := by decide +kernel
theorem dX13_expectNumber_0 : decode cX13_expectNumber 0 = .ok (.aload_n 0, 1) := by decide +kernel
theorem dX13_expectNumber_1 : decode cX13_expectNumber 1 = .ok (.getfield 26, 3) := by decide +kernel
theorem dX13_expectNumber_4 : decode cX13_expectNumber 4 = .ok (.aload_n 0, 1) := by decide +kernel
theorem dX13_expectNumber_5 : decode cX13_expectNumber 5 = .ok (.getfield 206, 3) := by decide +kernel
theorem dX13_expectNumber_8 : decode cX13_expectNumber 8 = .ok (.iaload, 1) := by decide +kernel
theorem dX13_expectNumber_9 : decode cX13_expectNumber 9 = .ok (.iconst 2, 1) := by decide +kernel
theorem dX13_expectNumber_10 : decode cX13_expectNumber 10 = .ok (.if_icmp .eq 16, 3) := by decide +kernel
theorem dX13_expectNumber_13 : decode cX13_expectNumber 13 = .ok (.new 209, 3) := by decide +kernel
theorem dX13_expectNumber_16 : decode cX13_expectNumber 16 = .ok (.dup, 1) := by decide +kernel
theorem dX13_expectNumber_17 : decode cX13_expectNumber 17 = .ok (.iconst 1, 1) := by decide +kernel
theorem dX13_expectNumber_18 : decode cX13_expectNumber 18 = .ok (.aload_n 0, 1) := by decide +kernel
theorem dX13_expectNumber_19 : decode cX13_expectNumber 19 = .ok (.getfield 206, 3) := by decide +kernel
theorem dX13_expectNumber_22 : decode cX13_expectNumber 22 = .ok (.invokespecial 211, 3) := by decide +kernel
theorem dX13_expectNumber_25 : decode cX13_expectNumber 25 = .ok (.athrow, 1) := by decide +kernel
theorem dX13_expectNumber_26 : decode cX13_expectNumber 26 = .ok (.aload_n 0, 1) := by decide +kernel
theorem dX13_expectNumber_27 : decode cX13_expectNumber 27 = .ok (.getfield 36, 3) := by decide +kernel
theorem dX13_expectNumber_30 : decode cX13_expectNumber 30 = .ok (.aload_n 0, 1) := by decide +kernel
theorem dX13_expectNumber_31 : decode cX13_expectNumber 31 = .ok (.getfield 206, 3) := by decide +kernel
theorem dX13_expectNumber_34 : decode cX13_expectNumber 34 = .ok (.laload, 1) := by decide +kernel
theorem dX13_expectNumber_35 : decode cX13_expectNumber 35 = .ok (.lload_n 1, 1) := by decide +kernel
theorem dX13_expectNumber_36 : decode cX13_expectNumber 36 = .ok (.lcmp, 1) := by decide +kernel
theorem dX13_expectNumber_37 : decode cX13_expectNumber 37 = .ok (.ifCond .lt 17, 3) := by decide +kernel
theorem dX13_expectNumber_40 : decode cX13_expectNumber 40 = .ok (.aload_n 0, 1) := by decide +kernel
theorem dX13_expectNumber_41 : decode cX13_expectNumber 41 = .ok (.getfield 36, 3) := by decide +kernel
theorem dX13_expectNumber_44 : decode cX13_expectNumber 44 = .ok (.aload_n 0, 1) := by decide +kernel
theorem dX13_expectNumber_45 : decode cX13_expectNumber 45 = .ok (.getfield 206, 3) := by decide +kernel
theorem dX13_expectNumber_48 : decode cX13_expectNumber 48 = .ok (.laload, 1) := by decide +kernel
theorem dX13_expectNumber_49 : decode cX13_expectNumber 49 = .ok (.lload_n 3, 1) := by decide +kernel
theorem dX13_expectNumber_50 : decode cX13_expectNumber 50 = .ok (.lcmp, 1) := by decide +kernel
theorem dX13_expectNumber_51 : decode cX13_expectNumber 51 = .ok (.ifCond .le 16, 3) := by decide +kernel
theorem dX13_expectNumber_54 : decode cX13_expectNumber 54 = .ok (.new 209, 3) := by decide +kernel
theorem dX13_expectNumber_57 : decode cX13_expectNumber 57 = .ok (.dup, 1) := by decide +kernel
theorem dX13_expectNumber_58 : decode cX13_expectNumber 58 = .ok (.iconst 3, 1) := by decide +kernel
theorem dX13_expectNumber_59 : decode cX13_expectNumber 59 = .ok (.aload_n 0, 1) := by decide +kernel
theorem dX13_expectNumber_60 : decode cX13_expectNumber 60 = .ok (.getfield 206, 3) := by decide +kernel
theorem dX13_expectNumber_63 : decode cX13_expectNumber 63 = .ok (.invokespecial 211, 3) := by decide +kernel
theorem dX13_expectNumber_66 : decode cX13_expectNumber 66 = .ok (.athrow, 1) := by decide +kernel
theorem dX13_expectNumber_67 : decode cX13_expectNumber 67 = .ok (.aload_n 0, 1) := by decide +kernel
theorem dX13_expectNumber_68 : decode cX13_expectNumber 68 = .ok (.dup, 1) := by decide +kernel
theorem dX13_expectNumber_69 : decode cX13_expectNumber 69 = .ok (.getfield 206, 3) := by decide +kernel
theorem dX13_expectNumber_72 : decode cX13_expectNumber 72 = .ok (.iconst 1, 1) := by decide +kernel
theorem dX13_expectNumber_73 : decode cX13_expectNumber 73 = .ok (.iadd, 1) := by decide +kernel
theorem dX13_expectNumber_74 : decode cX13_expectNumber 74 = .ok (.putfield 206, 3) := by decide +kernel
theorem dX13_expectNumber_77 : decode cX13_expectNumber 77 = .ok (.aload_n 0, 1) := by decide +kernel
theorem dX13_expectNumber_78 : decode cX13_expectNumber 78 = .ok (.getfield 36, 3) := by decide +kernel
theorem dX13_expectNumber_81 : decode cX13_expectNumber 81 = .ok (.aload_n 0, 1) := by decide +kernel
theorem dX13_expectNumber_82 : decode cX13_expectNumber 82 = .ok (.getfield 206, 3) := by decide +kernel
theorem dX13_expectNumber_85 : decode cX13_expectNumber 85 = .ok (.iconst 1, 1) := by decide +kernel
theorem dX13_expectNumber_86 : decode cX13_expectNumber 86 = .ok (.isub, 1) := by decide +kernel
theorem dX13_expectNumber_87 : decode cX13_expectNumber 87 = .ok (.laload, 1) := by decide +kernel
theorem dX13_expectNumber_88 : decode cX13_expectNumber 88 = .ok (.l2i, 1) := by decide +kernel
theorem dX13_expectNumber_89 : decode cX13_expectNumber 89 = .ok (.ireturn, 1) := by decide +kernel
theorem dX13_expect_0 : decode cX13_expect 0 = .ok (.aload_n 0, 1) := by decide +kernel
theorem dX13_expect_1 : decode cX13_expect 1 = .ok (.aload_n 0, 1) := by decide +kernel
theorem dX13_expect_2 : decode cX13_expect 2 = .ok (.getfield 206, 3) := by decide +kernel
theorem dX13_expect_5 : decode cX13_expect 5 = .ok (.iload_n 1, 1) := by decide +kernel
theorem dX13_expect_6 : decode cX13_expect 6 = .ok (.invokevirtual 214, 3) := by decide +kernel
theorem dX13_expect_9 : decode cX13_expect 9 = .ok (.ifCond .ne 16, 3) := by decide +kernel
theorem dX13_expect_12 : decode cX13_expect 12 = .ok (.new 209, 3) := by decide +kernel
theorem dX13_expect_15 : decode cX13_expect 15 = .ok (.dup, 1) := by decide +kernel
theorem dX13_expect_16 : decode cX13_expect 16 = .ok (.iconst 1, 1) := by decide +kernel
theorem dX13_expect_17 : decode cX13_expect 17 = .ok (.aload_n 0, 1) := by decide +kernel
theorem dX13_expect_18 : decode cX13_expect 18 = .ok (.getfield 206, 3) := by decide +kernel
theorem dX13_expect_21 : decode cX13_expect 21 = .ok (.invokespecial 211, 3) := by decide +kernel
theorem dX13_expect_24 : decode cX13_expect 24 = .ok (.athrow, 1) := by decide +kernel
theorem dX13_expect_25 : decode cX13_expect 25 = .ok (.aload_n 0, 1) := by decide +kernel
theorem dX13_expect_26 : decode cX13_expect 26 = .ok (.dup, 1) := by decide +kernel
theorem dX13_expect_27 : decode cX13_expect 27 = .ok (.getfield 206, 3) := by decide +kernel
theorem dX13_expect_30 : decode cX13_expect 30 = .ok (.iconst 1, 1) := by decide +kernel
theorem dX13_expect_31 : decode cX13_expect 31 = .ok (.iadd, 1) := by decide +kernel
theorem dX13_expect_32 : decode cX13_expect 32 = .ok (.putfield 206, 3) := by decide +kernel
theorem dX13_expect_35 : decode cX13_expect 35 = .ok (.return_, 1) := by decide +kernel
theorem dX13_needed_0 : decode cX13_needed 0 = .ok (.iconst 1, 1) := by decide +kernel
theorem dX13_needed_1 : decode cX13_needed 1 = .ok (.istore_n 1, 1) := by decide +kernel
theorem dX13_needed_2 : decode cX13_needed 2 = .ok (.iload_n 0, 1) := by decide +kernel
theorem dX13_needed_3 : decode cX13_needed 3 = .ok (.iload_n 1, 1) := by decide +kernel
theorem dX13_needed_4 : decode cX13_needed 4 = .ok (.ishr, 1) := by decide +kernel
theorem dX13_needed_5 : decode cX13_needed 5 = .ok (.ifCond .le 9, 3) := by decide +kernel
theorem dX13_needed_8 : decode cX13_needed 8 = .ok (.iinc 1 1, 3) := by decide +kernel
theorem dX13_needed_11 : decode cX13_needed 11 = .ok (.goto (-9), 3) := by decide +kernel
theorem dX13_needed_14 : decode cX13_needed 14 = .ok (.iload_n 1, 1) := by decide +kernel
theorem dX13_needed_15 : decode cX13_needed 15 = .ok (.ireturn, 1) := by decide +kernel
