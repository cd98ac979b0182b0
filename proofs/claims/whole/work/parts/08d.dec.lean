theorem dX4_show_0 : decode cX4_show 0 = .ok (.aload_n 0, 1) := by decide +kernel
theorem dX4_show_1 : decode cX4_show 1 = .ok (.iload_n 1, 1) := by decide +kernel
theorem dX4_show_2 : decode cX4_show 2 = .ok (.invokevirtual 59, 3) := by decide +kernel
theorem dX4_show_5 : decode cX4_show 5 = .ok (.istore_n 2, 1) := by decide +kernel
theorem dX4_show_6 : decode cX4_show 6 = .ok (.aload_n 0, 1) := by decide +kernel
theorem dX4_show_7 : decode cX4_show 7 = .ok (.iconst 0, 1) := by decide +kernel
theorem dX4_show_8 : decode cX4_show 8 = .ok (.putfield 34, 3) := by decide +kernel
theorem dX4_show_11 : decode cX4_show 11 = .ok (.aload_n 0, 1) := by decide +kernel
theorem dX4_show_12 : decode cX4_show 12 = .ok (.iload_n 2, 1) := by decide +kernel
theorem dX4_show_13 : decode cX4_show 13 = .ok (.putfield 22, 3) := by decide +kernel
theorem dX4_show_16 : decode cX4_show 16 = .ok (.iload_n 2, 1) := by decide +kernel
theorem dX4_show_17 : decode cX4_show 17 = .ok (.ifCond .ge 24, 3) := by decide +kernel
theorem dX4_show_20 : decode cX4_show 20 = .ok (.aload_n 0, 1) := by decide +kernel
theorem dX4_show_21 : decode cX4_show 21 = .ok (.ldc 63, 2) := by decide +kernel
theorem dX4_show_23 : decode cX4_show 23 = .ok (.invokevirtual 65, 3) := by decide +kernel
theorem dX4_show_26 : decode cX4_show 26 = .ok (.aload_n 0, 1) := by decide +kernel
theorem dX4_show_27 : decode cX4_show 27 = .ok (.aload_n 0, 1) := by decide +kernel
theorem dX4_show_28 : decode cX4_show 28 = .ok (.getfield 30, 3) := by decide +kernel
theorem dX4_show_31 : decode cX4_show 31 = .ok (.getfield 69, 3) := by decide +kernel
theorem dX4_show_34 : decode cX4_show 34 = .ok (.iload_n 1, 1) := by decide +kernel
theorem dX4_show_35 : decode cX4_show 35 = .ok (.laload, 1) := by decide +kernel
theorem dX4_show_36 : decode cX4_show 36 = .ok (.invokevirtual 74, 3) := by decide +kernel
theorem dX4_show_39 : decode cX4_show 39 = .ok (.iconst 1, 1) := by decide +kernel
theorem dX4_show_40 : decode cX4_show 40 = .ok (.ireturn, 1) := by decide +kernel
theorem dX4_show_41 : decode cX4_show 41 = .ok (.aload_n 0, 1) := by decide +kernel
theorem dX4_show_42 : decode cX4_show 42 = .ok (.getfield 26, 3) := by decide +kernel
theorem dX4_show_45 : decode cX4_show 45 = .ok (.getfield 78, 3) := by decide +kernel
theorem dX4_show_48 : decode cX4_show 48 = .ok (.iload_n 2, 1) := by decide +kernel
theorem dX4_show_49 : decode cX4_show 49 = .ok (.aaload, 1) := by decide +kernel
theorem dX4_show_50 : decode cX4_show 50 = .ok (.astore_n 3, 1) := by decide +kernel
theorem dX4_show_51 : decode cX4_show 51 = .ok (.aload_n 3, 1) := by decide +kernel
theorem dX4_show_52 : decode cX4_show 52 = .ok (.aload_n 0, 1) := by decide +kernel
theorem dX4_show_53 : decode cX4_show 53 = .ok (.getfield 30, 3) := by decide +kernel
theorem dX4_show_56 : decode cX4_show 56 = .ok (.getfield 69, 3) := by decide +kernel
theorem dX4_show_59 : decode cX4_show 59 = .ok (.iload_n 1, 1) := by decide +kernel
theorem dX4_show_60 : decode cX4_show 60 = .ok (.aload_n 0, 1) := by decide +kernel
theorem dX4_show_61 : decode cX4_show 61 = .ok (.getfield 9, 3) := by decide +kernel
theorem dX4_show_64 : decode cX4_show 64 = .ok (.invokevirtual 84, 3) := by decide +kernel
theorem dX4_show_67 : decode cX4_show 67 = .ok (.aload_n 0, 1) := by decide +kernel
theorem dX4_show_68 : decode cX4_show 68 = .ok (.aload_n 3, 1) := by decide +kernel
theorem dX4_show_69 : decode cX4_show 69 = .ok (.getfield 90, 3) := by decide +kernel
theorem dX4_show_72 : decode cX4_show 72 = .ok (.invokevirtual 94, 3) := by decide +kernel
theorem dX4_show_75 : decode cX4_show 75 = .ok (.aload_n 3, 1) := by decide +kernel
theorem dX4_show_76 : decode cX4_show 76 = .ok (.getfield 98, 3) := by decide +kernel
theorem dX4_show_79 : decode cX4_show 79 = .ok (.ifCond .le 9, 3) := by decide +kernel
theorem dX4_show_82 : decode cX4_show 82 = .ok (.aload_n 0, 1) := by decide +kernel
theorem dX4_show_83 : decode cX4_show 83 = .ok (.bipush 32, 2) := by decide +kernel
theorem dX4_show_85 : decode cX4_show 85 = .ok (.invokevirtual 46, 3) := by decide +kernel
theorem dX4_show_88 : decode cX4_show 88 = .ok (.iconst 0, 1) := by decide +kernel
theorem dX4_show_89 : decode cX4_show 89 = .ok (.istore 4, 2) := by decide +kernel
theorem dX4_show_91 : decode cX4_show 91 = .ok (.iload 4, 2) := by decide +kernel
theorem dX4_show_93 : decode cX4_show 93 = .ok (.aload_n 3, 1) := by decide +kernel
theorem dX4_show_94 : decode cX4_show 94 = .ok (.getfield 98, 3) := by decide +kernel
theorem dX4_show_97 : decode cX4_show 97 = .ok (.if_icmp .ge 22, 3) := by decide +kernel
theorem dX4_show_100 : decode cX4_show 100 = .ok (.aload_n 0, 1) := by decide +kernel
theorem dX4_show_101 : decode cX4_show 101 = .ok (.aload_n 3, 1) := by decide +kernel
theorem dX4_show_102 : decode cX4_show 102 = .ok (.aload_n 3, 1) := by decide +kernel
theorem dX4_show_103 : decode cX4_show 103 = .ok (.getfield 101, 3) := by decide +kernel
theorem dX4_show_106 : decode cX4_show 106 = .ok (.iload 4, 2) := by decide +kernel
theorem dX4_show_108 : decode cX4_show 108 = .ok (.iaload, 1) := by decide +kernel
theorem dX4_show_109 : decode cX4_show 109 = .ok (.iload_n 1, 1) := by decide +kernel
theorem dX4_show_110 : decode cX4_show 110 = .ok (.invokevirtual 105, 3) := by decide +kernel
theorem dX4_show_113 : decode cX4_show 113 = .ok (.iinc 4 1, 3) := by decide +kernel
theorem dX4_show_116 : decode cX4_show 116 = .ok (.goto (-25), 3) := by decide +kernel
theorem dX4_show_119 : decode cX4_show 119 = .ok (.aload_n 3, 1) := by decide +kernel
theorem dX4_show_120 : decode cX4_show 120 = .ok (.getfield 109, 3) := by decide +kernel
theorem dX4_show_123 : decode cX4_show 123 = .ok (.ireturn, 1) := by decide +kernel
theorem dX5_init_0 : decode cX5_init 0 = .ok (.aload_n 0, 1) := by decide +kernel
theorem dX5_init_1 : decode cX5_init 1 = .ok (.invokespecial 3, 3) := by decide +kernel
theorem dX5_init_4 : decode cX5_init 4 = .ok (.aload_n 0, 1) := by decide +kernel
theorem dX5_init_5 : decode cX5_init 5 = .ok (.bipush 40, 2) := by decide +kernel
theorem dX5_init_7 : decode cX5_init 7 = .ok (.anewarray 9, 3) := by decide +kernel
theorem dX5_init_10 : decode cX5_init 10 = .ok (.putfield 11, 3) := by decide +kernel
theorem dX5_init_13 : decode cX5_init 13 = .ok (.aload_n 0, 1) := by decide +kernel
theorem dX5_init_14 : decode cX5_init 14 = .ok (.bipush 96, 2) := by decide +kernel
theorem dX5_init_16 : decode cX5_init 16 = .ok (.anewarray 17, 3) := by decide +kernel
theorem dX5_init_19 : decode cX5_init 19 = .ok (.putfield 19, 3) := by decide +kernel
theorem dX5_init_22 : decode cX5_init 22 = .ok (.return_, 1) := by decide +kernel
theorem dX5_highestWord_0 : decode cX5_highestWord 0 = .ok (.lconst 1, 1) := by decide +kernel
theorem dX5_highestWord_1 : decode cX5_highestWord 1 = .ok (.aload_n 0, 1) := by decide +kernel
theorem dX5_highestWord_2 : decode cX5_highestWord 2 = .ok (.getfield 23, 3) := by decide +kernel
theorem dX5_highestWord_5 : decode cX5_highestWord 5 = .ok (.lshl, 1) := by decide +kernel
theorem dX5_highestWord_6 : decode cX5_highestWord 6 = .ok (.lconst 1, 1) := by decide +kernel
theorem dX5_highestWord_7 : decode cX5_highestWord 7 = .ok (.lsub, 1) := by decide +kernel
theorem dX5_highestWord_8 : decode cX5_highestWord 8 = .ok (.lreturn, 1) := by decide +kernel
theorem dX5_hasInstruction_0 : decode cX5_hasInstruction 0 = .ok (.iload_n 1, 1) := by decide +kernel
theorem dX5_hasInstruction_1 : decode cX5_hasInstruction 1 = .ok (.ifCond .lt 15, 3) := by decide +kernel
theorem dX5_hasInstruction_4 : decode cX5_hasInstruction 4 = .ok (.iload_n 1, 1) := by decide +kernel
theorem dX5_hasInstruction_5 : decode cX5_hasInstruction 5 = .ok (.aload_n 0, 1) := by decide +kernel
theorem dX5_hasInstruction_6 : decode cX5_hasInstruction 6 = .ok (.getfield 30, 3) := by decide +kernel
theorem dX5_hasInstruction_9 : decode cX5_hasInstruction 9 = .ok (.if_icmp .ge 7, 3) := by decide +kernel
theorem dX5_hasInstruction_12 : decode cX5_hasInstruction 12 = .ok (.iconst 1, 1) := by decide +kernel
theorem dX5_hasInstruction_13 : decode cX5_hasInstruction 13 = .ok (.goto 4, 3) := by decide +kernel
theorem dX5_hasInstruction_16 : decode cX5_hasInstruction 16 = .ok (.iconst 0, 1) := by decide +kernel
theorem dX5_hasInstruction_17 : decode cX5_hasInstruction 17 = .ok (.ireturn, 1) := by decide +kernel
theorem dX6_init_0 : decode cX6_init 0 = .ok (.aload_n 0, 1) := by decide +kernel
theorem dX6_init_1 : decode cX6_init 1 = .ok (.invokespecial 3, 3) := by decide +kernel
theorem dX6_init_4 : decode cX6_init 4 = .ok (.aload_n 0, 1) := by decide +kernel
theorem dX6_init_5 : decode cX6_init 5 = .ok (.sipush 4096, 3) := by decide +kernel
theorem dX6_init_8 : decode cX6_init 8 = .ok (.newarray .long, 2) := by decide +kernel
theorem dX6_init_10 : decode cX6_init 10 = .ok (.putfield 9, 3) := by decide +kernel
theorem dX6_init_13 : decode cX6_init 13 = .ok (.aload_n 0, 1) := by decide +kernel
theorem dX6_init_14 : decode cX6_init 14 = .ok (.sipush 4096, 3) := by decide +kernel
theorem dX6_init_17 : decode cX6_init 17 = .ok (.newarray .boolean, 2) := by decide +kernel
theorem dX6_init_19 : decode cX6_init 19 = .ok (.putfield 15, 3) := by decide +kernel
theorem dX6_init_22 : decode cX6_init 22 = .ok (.return_, 1) := by decide +kernel
theorem dX6_clear_0 : decode cX6_clear 0 = .ok (.iconst 0, 1) := by decide +kernel
theorem dX6_clear_1 : decode cX6_clear 1 = .ok (.istore_n 1, 1) := by decide +kernel
theorem dX6_clear_2 : decode cX6_clear 2 = .ok (.aload_n 0, 1) := by decide +kernel
theorem dX6_clear_3 : decode cX6_clear 3 = .ok (.getfield 19, 3) := by decide +kernel
theorem dX6_clear_6 : decode cX6_clear 6 = .ok (.ifCond .le 23, 3) := by decide +kernel
theorem dX6_clear_9 : decode cX6_clear 9 = .ok (.iload_n 1, 1) := by decide +kernel
theorem dX6_clear_10 : decode cX6_clear 10 = .ok (.sipush 4096, 3) := by decide +kernel
theorem dX6_clear_13 : decode cX6_clear 13 = .ok (.if_icmp .ge 16, 3) := by decide +kernel
theorem dX6_clear_16 : decode cX6_clear 16 = .ok (.aload_n 0, 1) := by decide +kernel
theorem dX6_clear_17 : decode cX6_clear 17 = .ok (.getfield 15, 3) := by decide +kernel
theorem dX6_clear_20 : decode cX6_clear 20 = .ok (.iload_n 1, 1) := by decide +kernel
theorem dX6_clear_21 : decode cX6_clear 21 = .ok (.iconst 0, 1) := by decide +kernel
theorem dX6_clear_22 : decode cX6_clear 22 = .ok (.bastore, 1) := by decide +kernel
theorem dX6_clear_23 : decode cX6_clear 23 = .ok (.iinc 1 1, 3) := by decide +kernel
theorem dX6_clear_26 : decode cX6_clear 26 = .ok (.goto (-24), 3) := by decide +kernel
theorem dX6_clear_29 : decode cX6_clear 29 = .ok (.aload_n 0, 1) := by decide +kernel
theorem dX6_clear_30 : decode cX6_clear 30 = .ok (.iconst 0, 1) := by decide +kernel
theorem dX6_clear_31 : decode cX6_clear 31 = .ok (.putfield 19, 3) := by decide +kernel
theorem dX6_clear_34 : decode cX6_clear 34 = .ok (.return_, 1) := by decide +kernel
theorem dX6_put_0 : decode cX6_put 0 = .ok (.aload_n 0, 1) := by decide +kernel
theorem dX6_put_1 : decode cX6_put 1 = .ok (.getfield 15, 3) := by decide +kernel
theorem dX6_put_4 : decode cX6_put 4 = .ok (.iload_n 1, 1) := by decide +kernel
theorem dX6_put_5 : decode cX6_put 5 = .ok (.baload, 1) := by decide +kernel
theorem dX6_put_6 : decode cX6_put 6 = .ok (.ifCond .ne 20, 3) := by decide +kernel
theorem dX6_put_9 : decode cX6_put 9 = .ok (.aload_n 0, 1) := by decide +kernel
theorem dX6_put_10 : decode cX6_put 10 = .ok (.getfield 15, 3) := by decide +kernel
theorem dX6_put_13 : decode cX6_put 13 = .ok (.iload_n 1, 1) := by decide +kernel
theorem dX6_put_14 : decode cX6_put 14 = .ok (.iconst 1, 1) := by decide +kernel
theorem dX6_put_15 : decode cX6_put 15 = .ok (.bastore, 1) := by decide +kernel
theorem dX6_put_16 : decode cX6_put 16 = .ok (.aload_n 0, 1) := by decide +kernel
theorem dX6_put_17 : decode cX6_put 17 = .ok (.dup, 1) := by decide +kernel
theorem dX6_put_18 : decode cX6_put 18 = .ok (.getfield 19, 3) := by decide +kernel
theorem dX6_put_21 : decode cX6_put 21 = .ok (.iconst 1, 1) := by decide +kernel
theorem dX6_put_22 : decode cX6_put 22 = .ok (.iadd, 1) := by decide +kernel
theorem dX6_put_23 : decode cX6_put 23 = .ok (.putfield 19, 3) := by decide +kernel
theorem dX6_put_26 : decode cX6_put 26 = .ok (.aload_n 0, 1) := by decide +kernel
theorem dX6_put_27 : decode cX6_put 27 = .ok (.getfield 9, 3) := by decide +kernel
theorem dX6_put_30 : decode cX6_put 30 = .ok (.iload_n 1, 1) := by decide +kernel
theorem dX6_put_31 : decode cX6_put 31 = .ok (.lload_n 2, 1) := by decide +kernel
theorem dX6_put_32 : decode cX6_put 32 = .ok (.lastore, 1) := by decide +kernel
theorem dX6_put_33 : decode cX6_put 33 = .ok (.return_, 1) := by decide +kernel
theorem dJxa1e45_init_da8c8_0 : decode cJxa1e45_init_da8c8 0 = .ok (.aload_n 0, 1) := by decide +kernel
theorem dJxa1e45_init_da8c8_1 : decode cJxa1e45_init_da8c8 1 = .ok (.invokespecial 1, 3) := by decide +kernel
theorem dJxa1e45_init_da8c8_4 : decode cJxa1e45_init_da8c8 4 = .ok (.return_, 1) := by decide +kernel
theorem dJxc12de_init_da8c8_0 : decode cJxc12de_init_da8c8 0 = .ok (.aload_n 0, 1) := by decide +kernel
theorem dJxc12de_init_da8c8_1 : decode cJxc12de_init_da8c8 1 = .ok (.invokespecial 1, 3) := by decide +kernel
theorem dJxc12de_init_da8c8_4 : decode cJxc12de_init_da8c8 4 = .ok (.aload_n 0, 1) := by decide +kernel
theorem dJxc12de_init_da8c8_5 : decode cJxc12de_init_da8c8 5 = .ok (.iconst 0, 1) := by decide +kernel
theorem dJxc12de_init_da8c8_6 : decode cJxc12de_init_da8c8 6 = .ok (.putfield 7, 3) := by decide +kernel
theorem dJxc12de_init_da8c8_9 : decode cJxc12de_init_da8c8 9 = .ok (.return_, 1) := by decide +kernel
theorem dJx4a65c_init_da8c8_0 : decode cJx4a65c_init_da8c8 0 = .ok (.aload_n 0, 1) := by decide +kernel
theorem dJx4a65c_init_da8c8_1 : decode cJx4a65c_init_da8c8 1 = .ok (.invokespecial 1, 3) := by decide +kernel
theorem dJx4a65c_init_da8c8_4 : decode cJx4a65c_init_da8c8 4 = .ok (.aload_n 0, 1) := by decide +kernel
theorem dJx4a65c_init_da8c8_5 : decode cJx4a65c_init_da8c8 5 = .ok (.getstatic 39, 3) := by decide +kernel
theorem dJx4a65c_init_da8c8_8 : decode cJx4a65c_init_da8c8 8 = .ok (.putfield 9, 3) := by decide +kernel
theorem dJx4a65c_init_da8c8_11 : decode cJx4a65c_init_da8c8 11 = .ok (.return_, 1) := by decide +kernel
theorem dX8_init_0 : decode cX8_init 0 = .ok (.aload_n 0, 1) := by decide +kernel
theorem dX8_init_1 : decode cX8_init 1 = .ok (.invokespecial 3, 3) := by decide +kernel
theorem dX8_init_4 : decode cX8_init 4 = .ok (.aload_n 0, 1) := by decide +kernel
theorem dX8_init_5 : decode cX8_init 5 = .ok (.new 9, 3) := by decide +kernel
theorem dX8_init_8 : decode cX8_init 8 = .ok (.dup, 1) := by decide +kernel
theorem dX8_init_9 : decode cX8_init 9 = .ok (.invokespecial 11, 3) := by decide +kernel
theorem dX8_init_12 : decode cX8_init 12 = .ok (.putfield 12, 3) := by decide +kernel
theorem dX8_init_15 : decode cX8_init 15 = .ok (.aload_n 0, 1) := by decide +kernel
theorem dX8_init_16 : decode cX8_init 16 = .ok (.new 9, 3) := by decide +kernel
theorem dX8_init_19 : decode cX8_init 19 = .ok (.dup, 1) := by decide +kernel
theorem dX8_init_20 : decode cX8_init 20 = .ok (.invokespecial 11, 3) := by decide +kernel
theorem dX8_init_23 : decode cX8_init 23 = .ok (.putfield 18, 3) := by decide +kernel
theorem dX8_init_26 : decode cX8_init 26 = .ok (.aload_n 0, 1) := by decide +kernel
theorem dX8_init_27 : decode cX8_init 27 = .ok (.sipush 256, 3) := by decide +kernel
theorem dX8_init_30 : decode cX8_init 30 = .ok (.newarray .int, 2) := by decide +kernel
theorem dX8_init_32 : decode cX8_init 32 = .ok (.putfield 21, 3) := by decide +kernel
theorem dX8_init_35 : decode cX8_init 35 = .ok (.aload_n 0, 1) := by decide +kernel
theorem dX8_init_36 : decode cX8_init 36 = .ok (.iconst 5, 1) := by decide +kernel
theorem dX8_init_37 : decode cX8_init 37 = .ok (.newarray .long, 2) := by decide +kernel
theorem dX8_init_39 : decode cX8_init 39 = .ok (.putfield 25, 3) := by decide +kernel
theorem dX8_init_42 : decode cX8_init 42 = .ok (.aload_n 0, 1) := by decide +kernel
theorem dX8_init_43 : decode cX8_init 43 = .ok (.aload_n 1, 1) := by decide +kernel
theorem dX8_init_44 : decode cX8_init 44 = .ok (.putfield 29, 3) := by decide +kernel
theorem dX8_init_47 : decode cX8_init 47 = .ok (.aload_n 0, 1) := by decide +kernel
theorem dX8_init_48 : decode cX8_init 48 = .ok (.aload_n 1, 1) := by decide +kernel
theorem dX8_init_49 : decode cX8_init 49 = .ok (.getfield 33, 3) := by decide +kernel
theorem dX8_init_52 : decode cX8_init 52 = .ok (.putfield 39, 3) := by decide +kernel
theorem dX8_init_55 : decode cX8_init 55 = .ok (.aload_n 0, 1) := by decide +kernel
theorem dX8_init_56 : decode cX8_init 56 = .ok (.aload_n 2, 1) := by decide +kernel
theorem dX8_init_57 : decode cX8_init 57 = .ok (.putfield 40, 3) := by decide +kernel
theorem dX8_init_60 : decode cX8_init 60 = .ok (.aload_n 0, 1) := by decide +kernel
theorem dX8_init_61 : decode cX8_init 61 = .ok (.aload_n 3, 1) := by decide +kernel
theorem dX8_init_62 : decode cX8_init 62 = .ok (.putfield 44, 3) := by decide +kernel
theorem dX8_init_65 : decode cX8_init 65 = .ok (.return_, 1) := by decide +kernel
theorem dJx4a65c_clear_da8c8_0 : decode cJx4a65c_clear_da8c8 0 = .ok (.aload_n 0, 1) := by decide +kernel
theorem dJx4a65c_clear_da8c8_1 : decode cJx4a65c_clear_da8c8 1 = .ok (.dup, 1) := by decide +kernel
theorem dJx4a65c_clear_da8c8_2 : decode cJx4a65c_clear_da8c8 2 = .ok (.getfield 63, 3) := by decide +kernel
theorem dJx4a65c_clear_da8c8_5 : decode cJx4a65c_clear_da8c8 5 = .ok (.iconst 1, 1) := by decide +kernel
theorem dJx4a65c_clear_da8c8_6 : decode cJx4a65c_clear_da8c8 6 = .ok (.iadd, 1) := by decide +kernel
theorem dJx4a65c_clear_da8c8_7 : decode cJx4a65c_clear_da8c8 7 = .ok (.putfield 63, 3) := by decide +kernel
theorem dJx4a65c_clear_da8c8_10 : decode cJx4a65c_clear_da8c8 10 = .ok (.aload_n 0, 1) := by decide +kernel
theorem dJx4a65c_clear_da8c8_11 : decode cJx4a65c_clear_da8c8 11 = .ok (.getfield 9, 3) := by decide +kernel
theorem dJx4a65c_clear_da8c8_14 : decode cJx4a65c_clear_da8c8 14 = .ok (.astore_n 1, 1) := by decide +kernel
theorem dJx4a65c_clear_da8c8_15 : decode cJx4a65c_clear_da8c8 15 = .ok (.aload_n 0, 1) := by decide +kernel
theorem dJx4a65c_clear_da8c8_16 : decode cJx4a65c_clear_da8c8 16 = .ok (.getfield 48, 3) := by decide +kernel
theorem dJx4a65c_clear_da8c8_19 : decode cJx4a65c_clear_da8c8 19 = .ok (.istore_n 2, 1) := by decide +kernel
theorem dJx4a65c_clear_da8c8_20 : decode cJx4a65c_clear_da8c8 20 = .ok (.aload_n 0, 1) := by decide +kernel
theorem dJx4a65c_clear_da8c8_21 : decode cJx4a65c_clear_da8c8 21 = .ok (.iconst 0, 1) := by decide +kernel
theorem dJx4a65c_clear_da8c8_22 : decode cJx4a65c_clear_da8c8 22 = .ok (.dup_x1, 1) := by decide +kernel
theorem dJx4a65c_clear_da8c8_23 : decode cJx4a65c_clear_da8c8 23 = .ok (.putfield 48, 3) := by decide +kernel
theorem dJx4a65c_clear_da8c8_26 : decode cJx4a65c_clear_da8c8 26 = .ok (.istore_n 3, 1) := by decide +kernel
theorem dJx4a65c_clear_da8c8_27 : decode cJx4a65c_clear_da8c8 27 = .ok (.iload_n 3, 1) := by decide +kernel
theorem dJx4a65c_clear_da8c8_28 : decode cJx4a65c_clear_da8c8 28 = .ok (.iload_n 2, 1) := by decide +kernel
theorem dJx4a65c_clear_da8c8_29 : decode cJx4a65c_clear_da8c8 29 = .ok (.if_icmp .ge 13, 3) := by decide +kernel
theorem dJx4a65c_clear_da8c8_32 : decode cJx4a65c_clear_da8c8 32 = .ok (.aload_n 1, 1) := by decide +kernel
theorem dJx4a65c_clear_da8c8_33 : decode cJx4a65c_clear_da8c8 33 = .ok (.iload_n 3, 1) := by decide +kernel
theorem dJx4a65c_clear_da8c8_34 : decode cJx4a65c_clear_da8c8 34 = .ok (.aconst_null, 1) := by decide +kernel
theorem dJx4a65c_clear_da8c8_35 : decode cJx4a65c_clear_da8c8 35 = .ok (.aastore, 1) := by decide +kernel
theorem dJx4a65c_clear_da8c8_36 : decode cJx4a65c_clear_da8c8 36 = .ok (.iinc 3 1, 3) := by decide +kernel
theorem dJx4a65c_clear_da8c8_39 : decode cJx4a65c_clear_da8c8 39 = .ok (.goto (-12), 3) := by decide +kernel
theorem dJx4a65c_clear_da8c8_42 : decode cJx4a65c_clear_da8c8 42 = .ok (.return_, 1) := by decide +kernel
theorem dJ7_fill_53178_0 : decode cJ7_fill_53178 0 = .ok (.iconst 0, 1) := by decide +kernel
theorem dJ7_fill_53178_1 : decode cJ7_fill_53178 1 = .ok (.istore_n 2, 1) := by decide +kernel
theorem dJ7_fill_53178_2 : decode cJ7_fill_53178 2 = .ok (.aload_n 0, 1) := by decide +kernel
theorem dJ7_fill_53178_3 : decode cJ7_fill_53178 3 = .ok (.arraylength, 1) := by decide +kernel
theorem dJ7_fill_53178_4 : decode cJ7_fill_53178 4 = .ok (.istore_n 3, 1) := by decide +kernel
theorem dJ7_fill_53178_5 : decode cJ7_fill_53178 5 = .ok (.iload_n 2, 1) := by decide +kernel
theorem dJ7_fill_53178_6 : decode cJ7_fill_53178 6 = .ok (.iload_n 3, 1) := by decide +kernel
theorem dJ7_fill_53178_7 : decode cJ7_fill_53178 7 = .ok (.if_icmp .ge 13, 3) := by decide +kernel
theorem dJ7_fill_53178_10 : decode cJ7_fill_53178 10 = .ok (.aload_n 0, 1) := by decide +kernel
theorem dJ7_fill_53178_11 : decode cJ7_fill_53178 11 = .ok (.iload_n 2, 1) := by decide +kernel
theorem dJ7_fill_53178_12 : decode cJ7_fill_53178 12 = .ok (.iload_n 1, 1) := by decide +kernel
theorem dJ7_fill_53178_13 : decode cJ7_fill_53178 13 = .ok (.iastore, 1) := by decide +kernel
theorem dJ7_fill_53178_14 : decode cJ7_fill_53178 14 = .ok (.iinc 2 1, 3) := by decide +kernel
theorem dJ7_fill_53178_17 : decode cJ7_fill_53178 17 = .ok (.goto (-12), 3) := by decide +kernel
theorem dJ7_fill_53178_20 : decode cJ7_fill_53178 20 = .ok (.return_, 1) := by decide +kernel
theorem dX8_forget_0 : decode cX8_forget 0 = .ok (.aload_n 0, 1) := by decide +kernel
theorem dX8_forget_1 : decode cX8_forget 1 = .ok (.getfield 44, 3) := by decide +kernel
theorem dX8_forget_4 : decode cX8_forget 4 = .ok (.invokevirtual 48, 3) := by decide +kernel
theorem dX8_forget_7 : decode cX8_forget 7 = .ok (.aload_n 0, 1) := by decide +kernel
theorem dX8_forget_8 : decode cX8_forget 8 = .ok (.getfield 12, 3) := by decide +kernel
theorem dX8_forget_11 : decode cX8_forget 11 = .ok (.invokevirtual 53, 3) := by decide +kernel
theorem dX8_forget_14 : decode cX8_forget 14 = .ok (.aload_n 0, 1) := by decide +kernel
theorem dX8_forget_15 : decode cX8_forget 15 = .ok (.getfield 18, 3) := by decide +kernel
theorem dX8_forget_18 : decode cX8_forget 18 = .ok (.invokevirtual 53, 3) := by decide +kernel
theorem dX8_forget_21 : decode cX8_forget 21 = .ok (.aload_n 0, 1) := by decide +kernel
theorem dX8_forget_22 : decode cX8_forget 22 = .ok (.getfield 21, 3) := by decide +kernel
theorem dX8_forget_25 : decode cX8_forget 25 = .ok (.iconst (-1), 1) := by decide +kernel
theorem dX8_forget_26 : decode cX8_forget 26 = .ok (.invokestatic 54, 3) := by decide +kernel
theorem dX8_forget_29 : decode cX8_forget 29 = .ok (.aload_n 0, 1) := by decide +kernel
theorem dX8_forget_30 : decode cX8_forget 30 = .ok (.iconst 0, 1) := by decide +kernel
theorem dX8_forget_31 : decode cX8_forget 31 = .ok (.putfield 60, 3) := by decide +kernel
theorem dX8_forget_34 : decode cX8_forget 34 = .ok (.return_, 1) := by decide +kernel
theorem dJx4a65c_size_8abf5_0 : decode cJx4a65c_size_8abf5 0 = .ok (.aload_n 0, 1) := by decide +kernel
theorem dJx4a65c_size_8abf5_1 : decode cJx4a65c_size_8abf5 1 = .ok (.getfield 48, 3) := by decide +kernel
theorem dJx4a65c_size_8abf5_4 : decode cJx4a65c_size_8abf5 4 = .ok (.ireturn, 1) := by decide +kernel
theorem dJ15_checkIndex_7cf53_0 : decode cJ15_checkIndex_7cf53 0 = .ok (.iload_n 0, 1) := by decide +kernel
theorem dJ15_checkIndex_7cf53_1 : decode cJ15_checkIndex_7cf53 1 = .ok (.iload_n 1, 1) := by decide +kernel
theorem dJ15_checkIndex_7cf53_2 : decode cJ15_checkIndex_7cf53 2 = .ok (.aconst_null, 1) := by decide +kernel
theorem dJ15_checkIndex_7cf53_3 : decode cJ15_checkIndex_7cf53 3 = .ok (.invokestatic 105, 3) := by decide +kernel
theorem dJ15_checkIndex_7cf53_6 : decode cJ15_checkIndex_7cf53 6 = .ok (.ireturn, 1) := by decide +kernel
theorem dJx4a65c_elementData_915e3_0 : decode cJx4a65c_elementData_915e3 0 = .ok (.aload_n 0, 1) := by decide +kernel
theorem dJx4a65c_elementData_915e3_1 : decode cJx4a65c_elementData_915e3 1 = .ok (.getfield 9, 3) := by decide +kernel
theorem dJx4a65c_elementData_915e3_4 : decode cJx4a65c_elementData_915e3 4 = .ok (.iload_n 1, 1) := by decide +kernel
theorem dJx4a65c_elementData_915e3_5 : decode cJx4a65c_elementData_915e3 5 = .ok (.aaload, 1) := by decide +kernel
theorem dJx4a65c_elementData_915e3_6 : decode cJx4a65c_elementData_915e3 6 = .ok (.areturn, 1) := by decide +kernel
theorem dJx4a65c_get_915e3_0 : decode cJx4a65c_get_915e3 0 = .ok (.iload_n 1, 1) := by decide +kernel
theorem dJx4a65c_get_915e3_1 : decode cJx4a65c_get_915e3 1 = .ok (.aload_n 0, 1) := by decide +kernel
theorem dJx4a65c_get_915e3_2 : decode cJx4a65c_get_915e3 2 = .ok (.getfield 48, 3) := by decide +kernel
theorem dJx4a65c_get_915e3_5 : decode cJx4a65c_get_915e3 5 = .ok (.invokestatic 118, 3) := by decide +kernel
theorem dJx4a65c_get_915e3_8 : decode cJx4a65c_get_915e3 8 = .ok (.pop, 1) := by decide +kernel
theorem dJx4a65c_get_915e3_9 : decode cJx4a65c_get_915e3 9 = .ok (.aload_n 0, 1) := by decide +kernel
theorem dJx4a65c_get_915e3_10 : decode cJx4a65c_get_915e3 10 = .ok (.iload_n 1, 1) := by decide +kernel
theorem dJx4a65c_get_915e3_11 : decode cJx4a65c_get_915e3 11 = .ok (.invokevirtual 123, 3) := by decide +kernel
theorem dJx4a65c_get_915e3_14 : decode cJx4a65c_get_915e3 14 = .ok (.areturn, 1) := by decide +kernel
theorem dX10_isSame_0 : decode cX10_isSame 0 = .ok (.aload_n 0, 1) := by decide +kernel
theorem dX10_isSame_1 : decode cX10_isSame 1 = .ok (.getfield 22, 3) := by decide +kernel
theorem dX10_isSame_4 : decode cX10_isSame 4 = .ok (.iload_n 1, 1) := by decide +kernel
theorem dX10_isSame_5 : decode cX10_isSame 5 = .ok (.iaload, 1) := by decide +kernel
theorem dX10_isSame_6 : decode cX10_isSame 6 = .ok (.aload_n 0, 1) := by decide +kernel
theorem dX10_isSame_7 : decode cX10_isSame 7 = .ok (.getfield 18, 3) := by decide +kernel
theorem dX10_isSame_10 : decode cX10_isSame 10 = .ok (.iload_n 1, 1) := by decide +kernel
theorem dX10_isSame_11 : decode cX10_isSame 11 = .ok (.iaload, 1) := by decide +kernel
theorem dX10_isSame_12 : decode cX10_isSame 12 = .ok (.isub, 1) := by decide +kernel
theorem dX10_isSame_13 : decode cX10_isSame 13 = .ok (.istore_n 3, 1) := by decide +kernel
theorem dX10_isSame_14 : decode cX10_isSame 14 = .ok (.iload_n 3, 1) := by decide +kernel
theorem dX10_isSame_15 : decode cX10_isSame 15 = .ok (.aload_n 0, 1) := by decide +kernel
theorem dX10_isSame_16 : decode cX10_isSame 16 = .ok (.getfield 22, 3) := by decide +kernel
theorem dX10_isSame_19 : decode cX10_isSame 19 = .ok (.iload_n 2, 1) := by decide +kernel
theorem dX10_isSame_20 : decode cX10_isSame 20 = .ok (.iaload, 1) := by decide +kernel
theorem dX10_isSame_21 : decode cX10_isSame 21 = .ok (.aload_n 0, 1) := by decide +kernel
theorem dX10_isSame_22 : decode cX10_isSame 22 = .ok (.getfield 18, 3) := by decide +kernel
theorem dX10_isSame_25 : decode cX10_isSame 25 = .ok (.iload_n 2, 1) := by decide +kernel
theorem dX10_isSame_26 : decode cX10_isSame 26 = .ok (.iaload, 1) := by decide +kernel
theorem dX10_isSame_27 : decode cX10_isSame 27 = .ok (.isub, 1) := by decide +kernel
theorem dX10_isSame_28 : decode cX10_isSame 28 = .ok (.if_icmp .eq 5, 3) := by decide +kernel
theorem dX10_isSame_31 : decode cX10_isSame 31 = .ok (.iconst 0, 1) := by decide +kernel
theorem dX10_isSame_32 : decode cX10_isSame 32 = .ok (.ireturn, 1) := by decide +kernel
theorem dX10_isSame_33 : decode cX10_isSame 33 = .ok (.iconst 0, 1) := by decide +kernel
theorem dX10_isSame_34 : decode cX10_isSame 34 = .ok (.istore 4, 2) := by decide +kernel
theorem dX10_isSame_36 : decode cX10_isSame 36 = .ok (.iload 4, 2) := by decide +kernel
theorem dX10_isSame_38 : decode cX10_isSame 38 = .ok (.iload_n 3, 1) := by decide +kernel
theorem dX10_isSame_39 : decode cX10_isSame 39 = .ok (.if_icmp .ge 42, 3) := by decide +kernel
theorem dX10_isSame_42 : decode cX10_isSame 42 = .ok (.aload_n 0, 1) := by decide +kernel
theorem dX10_isSame_43 : decode cX10_isSame 43 = .ok (.getfield 9, 3) := by decide +kernel
theorem dX10_isSame_46 : decode cX10_isSame 46 = .ok (.aload_n 0, 1) := by decide +kernel
theorem dX10_isSame_47 : decode cX10_isSame 47 = .ok (.getfield 18, 3) := by decide +kernel
theorem dX10_isSame_50 : decode cX10_isSame 50 = .ok (.iload_n 1, 1) := by decide +kernel
theorem dX10_isSame_51 : decode cX10_isSame 51 = .ok (.iaload, 1) := by decide +kernel
theorem dX10_isSame_52 : decode cX10_isSame 52 = .ok (.iload 4, 2) := by decide +kernel
theorem dX10_isSame_54 : decode cX10_isSame 54 = .ok (.iadd, 1) := by decide +kernel
theorem dX10_isSame_55 : decode cX10_isSame 55 = .ok (.baload, 1) := by decide +kernel
theorem dX10_isSame_56 : decode cX10_isSame 56 = .ok (.aload_n 0, 1) := by decide +kernel
theorem dX10_isSame_57 : decode cX10_isSame 57 = .ok (.getfield 9, 3) := by decide +kernel
theorem dX10_isSame_60 : decode cX10_isSame 60 = .ok (.aload_n 0, 1) := by decide +kernel
theorem dX10_isSame_61 : decode cX10_isSame 61 = .ok (.getfield 18, 3) := by decide +kernel
theorem dX10_isSame_64 : decode cX10_isSame 64 = .ok (.iload_n 2, 1) := by decide +kernel
theorem dX10_isSame_65 : decode cX10_isSame 65 = .ok (.iaload, 1) := by decide +kernel
theorem dX10_isSame_66 : decode cX10_isSame 66 = .ok (.iload 4, 2) := by decide +kernel
theorem dX10_isSame_68 : decode cX10_isSame 68 = .ok (.iadd, 1) := by decide +kernel
theorem dX10_isSame_69 : decode cX10_isSame 69 = .ok (.baload, 1) := by decide +kernel
theorem dX10_isSame_70 : decode cX10_isSame 70 = .ok (.if_icmp .eq 5, 3) := by decide +kernel
theorem dX10_isSame_73 : decode cX10_isSame 73 = .ok (.iconst 0, 1) := by decide +kernel
theorem dX10_isSame_74 : decode cX10_isSame 74 = .ok (.ireturn, 1) := by decide +kernel
theorem dX10_isSame_75 : decode cX10_isSame 75 = .ok (.iinc 4 1, 3) := by decide +kernel
theorem dX10_isSame_78 : decode cX10_isSame 78 = .ok (.goto (-42), 3) := by decide +kernel
theorem dX10_isSame_81 : decode cX10_isSame 81 = .ok (.iconst 1, 1) := by decide +kernel
theorem dX10_isSame_82 : decode cX10_isSame 82 = .ok (.ireturn, 1) := by decide +kernel
theorem dX10_hash_0 : decode cX10_hash 0 = .ok (.iconst 0, 1) := by decide +kernel
theorem dX10_hash_1 : decode cX10_hash 1 = .ok (.istore_n 2, 1) := by decide +kernel
theorem dX10_hash_2 : decode cX10_hash 2 = .ok (.aload_n 0, 1) := by decide +kernel
theorem dX10_hash_3 : decode cX10_hash 3 = .ok (.getfield 18, 3) := by decide +kernel
theorem dX10_hash_6 : decode cX10_hash 6 = .ok (.iload_n 1, 1) := by decide +kernel
theorem dX10_hash_7 : decode cX10_hash 7 = .ok (.iaload, 1) := by decide +kernel
theorem dX10_hash_8 : decode cX10_hash 8 = .ok (.istore_n 3, 1) := by decide +kernel
theorem dX10_hash_9 : decode cX10_hash 9 = .ok (.iload_n 3, 1) := by decide +kernel
theorem dX10_hash_10 : decode cX10_hash 10 = .ok (.aload_n 0, 1) := by decide +kernel
theorem dX10_hash_11 : decode cX10_hash 11 = .ok (.getfield 22, 3) := by decide +kernel
theorem dX10_hash_14 : decode cX10_hash 14 = .ok (.iload_n 1, 1) := by decide +kernel
theorem dX10_hash_15 : decode cX10_hash 15 = .ok (.iaload, 1) := by decide +kernel
theorem dX10_hash_16 : decode cX10_hash 16 = .ok (.if_icmp .ge 21, 3) := by decide +kernel
theorem dX10_hash_19 : decode cX10_hash 19 = .ok (.iload_n 2, 1) := by decide +kernel
theorem dX10_hash_20 : decode cX10_hash 20 = .ok (.bipush 31, 2) := by decide +kernel
theorem dX10_hash_22 : decode cX10_hash 22 = .ok (.imul, 1) := by decide +kernel
theorem dX10_hash_23 : decode cX10_hash 23 = .ok (.aload_n 0, 1) := by decide +kernel
theorem dX10_hash_24 : decode cX10_hash 24 = .ok (.getfield 9, 3) := by decide +kernel
theorem dX10_hash_27 : decode cX10_hash 27 = .ok (.iload_n 3, 1) := by decide +kernel
theorem dX10_hash_28 : decode cX10_hash 28 = .ok (.baload, 1) := by decide +kernel
theorem dX10_hash_29 : decode cX10_hash 29 = .ok (.iadd, 1) := by decide +kernel
theorem dX10_hash_30 : decode cX10_hash 30 = .ok (.istore_n 2, 1) := by decide +kernel
theorem dX10_hash_31 : decode cX10_hash 31 = .ok (.iinc 3 1, 3) := by decide +kernel
theorem dX10_hash_34 : decode cX10_hash 34 = .ok (.goto (-25), 3) := by decide +kernel
theorem dX10_hash_37 : decode cX10_hash 37 = .ok (.iload_n 2, 1) := by decide +kernel
theorem dX10_hash_38 : decode cX10_hash 38 = .ok (.ireturn, 1) := by decide +kernel
theorem dX8_labelAt_0 : decode cX8_labelAt 0 = .ok (.aload_n 0, 1) := by decide +kernel
theorem dX8_labelAt_1 : decode cX8_labelAt 1 = .ok (.getfield 21, 3) := by decide +kernel
theorem dX8_labelAt_4 : decode cX8_labelAt 4 = .ok (.aload_n 0, 1) := by decide +kernel
theorem dX8_labelAt_5 : decode cX8_labelAt 5 = .ok (.getfield 39, 3) := by decide +kernel
theorem dX8_labelAt_8 : decode cX8_labelAt 8 = .ok (.iload_n 1, 1) := by decide +kernel
theorem dX8_labelAt_9 : decode cX8_labelAt 9 = .ok (.invokevirtual 187, 3) := by decide +kernel
theorem dX8_labelAt_12 : decode cX8_labelAt 12 = .ok (.sipush 255, 3) := by decide +kernel
theorem dX8_labelAt_15 : decode cX8_labelAt 15 = .ok (.iand, 1) := by decide +kernel
theorem dX8_labelAt_16 : decode cX8_labelAt 16 = .ok (.iaload, 1) := by decide +kernel
theorem dX8_labelAt_17 : decode cX8_labelAt 17 = .ok (.istore_n 2, 1) := by decide +kernel
theorem dX8_labelAt_18 : decode cX8_labelAt 18 = .ok (.iload_n 2, 1) := by decide +kernel
theorem dX8_labelAt_19 : decode cX8_labelAt 19 = .ok (.ifCond .lt 57, 3) := by decide +kernel
theorem dX8_labelAt_22 : decode cX8_labelAt 22 = .ok (.iload_n 2, 1) := by decide +kernel
theorem dX8_labelAt_23 : decode cX8_labelAt 23 = .ok (.aload_n 0, 1) := by decide +kernel
theorem dX8_labelAt_24 : decode cX8_labelAt 24 = .ok (.getfield 18, 3) := by decide +kernel
theorem dX8_labelAt_27 : decode cX8_labelAt 27 = .ok (.invokevirtual 80, 3) := by decide +kernel
theorem dX8_labelAt_30 : decode cX8_labelAt 30 = .ok (.if_icmp .ge 46, 3) := by decide +kernel
theorem dX8_labelAt_33 : decode cX8_labelAt 33 = .ok (.aload_n 0, 1) := by decide +kernel
theorem dX8_labelAt_34 : decode cX8_labelAt 34 = .ok (.getfield 18, 3) := by decide +kernel
theorem dX8_labelAt_37 : decode cX8_labelAt 37 = .ok (.iload_n 2, 1) := by decide +kernel
theorem dX8_labelAt_38 : decode cX8_labelAt 38 = .ok (.invokevirtual 87, 3) := by decide +kernel
theorem dX8_labelAt_41 : decode cX8_labelAt 41 = .ok (.checkcast 91, 3) := by decide +kernel
theorem dX8_labelAt_44 : decode cX8_labelAt 44 = .ok (.astore_n 3, 1) := by decide +kernel
theorem dX8_labelAt_45 : decode cX8_labelAt 45 = .ok (.aload_n 0, 1) := by decide +kernel
theorem dX8_labelAt_46 : decode cX8_labelAt 46 = .ok (.getfield 39, 3) := by decide +kernel
theorem dX8_labelAt_49 : decode cX8_labelAt 49 = .ok (.aload_n 3, 1) := by decide +kernel
theorem dX8_labelAt_50 : decode cX8_labelAt 50 = .ok (.getfield 184, 3) := by decide +kernel
theorem dX8_labelAt_53 : decode cX8_labelAt 53 = .ok (.iload_n 1, 1) := by decide +kernel
theorem dX8_labelAt_54 : decode cX8_labelAt 54 = .ok (.invokevirtual 193, 3) := by decide +kernel
theorem dX8_labelAt_57 : decode cX8_labelAt 57 = .ok (.ifCond .eq 5, 3) := by decide +kernel
theorem dX8_labelAt_60 : decode cX8_labelAt 60 = .ok (.iload_n 2, 1) := by decide +kernel
theorem dX8_labelAt_61 : decode cX8_labelAt 61 = .ok (.ireturn, 1) := by decide +kernel
theorem dX8_labelAt_62 : decode cX8_labelAt 62 = .ok (.iload_n 2, 1) := by decide +kernel
theorem dX8_labelAt_63 : decode cX8_labelAt 63 = .ok (.iconst 1, 1) := by decide +kernel
theorem dX8_labelAt_64 : decode cX8_labelAt 64 = .ok (.isub, 1) := by decide +kernel
theorem dX8_labelAt_65 : decode cX8_labelAt 65 = .ok (.aload_n 3, 1) := by decide +kernel
theorem dX8_labelAt_66 : decode cX8_labelAt 66 = .ok (.getfield 190, 3) := by decide +kernel
theorem dX8_labelAt_69 : decode cX8_labelAt 69 = .ok (.invokestatic 196, 3) := by decide +kernel
theorem dX8_labelAt_72 : decode cX8_labelAt 72 = .ok (.istore_n 2, 1) := by decide +kernel
theorem dX8_labelAt_73 : decode cX8_labelAt 73 = .ok (.goto (-55), 3) := by decide +kernel
theorem dX8_labelAt_76 : decode cX8_labelAt 76 = .ok (.iconst (-1), 1) := by decide +kernel
theorem dX8_labelAt_77 : decode cX8_labelAt 77 = .ok (.ireturn, 1) := by decide +kernel
theorem dX8_findLabelsOf_0 : decode cX8_findLabelsOf 0 = .ok (.aload_n 1, 1) := by decide +kernel
theorem dX8_findLabelsOf_1 : decode cX8_findLabelsOf 1 = .ok (.getfield 104, 3) := by decide +kernel
theorem dX8_findLabelsOf_4 : decode cX8_findLabelsOf 4 = .ok (.iconst 1, 1) := by decide +kernel
theorem dX8_findLabelsOf_5 : decode cX8_findLabelsOf 5 = .ok (.iadd, 1) := by decide +kernel
theorem dX8_findLabelsOf_6 : decode cX8_findLabelsOf 6 = .ok (.istore_n 2, 1) := by decide +kernel
theorem dX8_findLabelsOf_7 : decode cX8_findLabelsOf 7 = .ok (.iload_n 2, 1) := by decide +kernel
theorem dX8_findLabelsOf_8 : decode cX8_findLabelsOf 8 = .ok (.aload_n 0, 1) := by decide +kernel
theorem dX8_findLabelsOf_9 : decode cX8_findLabelsOf 9 = .ok (.getfield 39, 3) := by decide +kernel
theorem dX8_findLabelsOf_12 : decode cX8_findLabelsOf 12 = .ok (.getfield 68, 3) := by decide +kernel
theorem dX8_findLabelsOf_15 : decode cX8_findLabelsOf 15 = .ok (.if_icmp .ge 50, 3) := by decide +kernel
theorem dX8_findLabelsOf_18 : decode cX8_findLabelsOf 18 = .ok (.aload_n 0, 1) := by decide +kernel
theorem dX8_findLabelsOf_19 : decode cX8_findLabelsOf 19 = .ok (.getfield 39, 3) := by decide +kernel
theorem dX8_findLabelsOf_22 : decode cX8_findLabelsOf 22 = .ok (.getfield 148, 3) := by decide +kernel
theorem dX8_findLabelsOf_25 : decode cX8_findLabelsOf 25 = .ok (.iload_n 2, 1) := by decide +kernel
theorem dX8_findLabelsOf_26 : decode cX8_findLabelsOf 26 = .ok (.baload, 1) := by decide +kernel
theorem dX8_findLabelsOf_27 : decode cX8_findLabelsOf 27 = .ok (.iconst 4, 1) := by decide +kernel
theorem dX8_findLabelsOf_28 : decode cX8_findLabelsOf 28 = .ok (.if_icmp .eq 37, 3) := by decide +kernel
theorem dX8_findLabelsOf_31 : decode cX8_findLabelsOf 31 = .ok (.aload_n 0, 1) := by decide +kernel
theorem dX8_findLabelsOf_32 : decode cX8_findLabelsOf 32 = .ok (.getfield 39, 3) := by decide +kernel
theorem dX8_findLabelsOf_35 : decode cX8_findLabelsOf 35 = .ok (.getfield 148, 3) := by decide +kernel
theorem dX8_findLabelsOf_38 : decode cX8_findLabelsOf 38 = .ok (.iload_n 2, 1) := by decide +kernel
theorem dX8_findLabelsOf_39 : decode cX8_findLabelsOf 39 = .ok (.baload, 1) := by decide +kernel
theorem dX8_findLabelsOf_40 : decode cX8_findLabelsOf 40 = .ok (.iconst 1, 1) := by decide +kernel
theorem dX8_findLabelsOf_41 : decode cX8_findLabelsOf 41 = .ok (.if_icmp .ne 18, 3) := by decide +kernel
theorem dX8_findLabelsOf_44 : decode cX8_findLabelsOf 44 = .ok (.aload_n 0, 1) := by decide +kernel
theorem dX8_findLabelsOf_45 : decode cX8_findLabelsOf 45 = .ok (.getfield 39, 3) := by decide +kernel
theorem dX8_findLabelsOf_48 : decode cX8_findLabelsOf 48 = .ok (.getfield 202, 3) := by decide +kernel
theorem dX8_findLabelsOf_51 : decode cX8_findLabelsOf 51 = .ok (.iload_n 2, 1) := by decide +kernel
theorem dX8_findLabelsOf_52 : decode cX8_findLabelsOf 52 = .ok (.aload_n 0, 1) := by decide +kernel
theorem dX8_findLabelsOf_53 : decode cX8_findLabelsOf 53 = .ok (.iload_n 2, 1) := by decide +kernel
theorem dX8_findLabelsOf_54 : decode cX8_findLabelsOf 54 = .ok (.invokevirtual 121, 3) := by decide +kernel
theorem dX8_findLabelsOf_57 : decode cX8_findLabelsOf 57 = .ok (.i2l, 1) := by decide +kernel
theorem dX8_findLabelsOf_58 : decode cX8_findLabelsOf 58 = .ok (.lastore, 1) := by decide +kernel
theorem dX8_findLabelsOf_59 : decode cX8_findLabelsOf 59 = .ok (.iinc 2 1, 3) := by decide +kernel
theorem dX8_findLabelsOf_62 : decode cX8_findLabelsOf 62 = .ok (.goto (-55), 3) := by decide +kernel
theorem dX8_findLabelsOf_65 : decode cX8_findLabelsOf 65 = .ok (.return_, 1) := by decide +kernel
theorem dX10_isLineEnd_0 : decode cX10_isLineEnd 0 = .ok (.aload_n 0, 1) := by decide +kernel
theorem dX10_isLineEnd_1 : decode cX10_isLineEnd 1 = .ok (.getfield 15, 3) := by decide +kernel
theorem dX10_isLineEnd_4 : decode cX10_isLineEnd 4 = .ok (.iload_n 1, 1) := by decide +kernel
theorem dX10_isLineEnd_5 : decode cX10_isLineEnd 5 = .ok (.baload, 1) := by decide +kernel
theorem dX10_isLineEnd_6 : decode cX10_isLineEnd 6 = .ok (.iconst 4, 1) := by decide +kernel
theorem dX10_isLineEnd_7 : decode cX10_isLineEnd 7 = .ok (.if_icmp .eq 13, 3) := by decide +kernel
theorem dX10_isLineEnd_10 : decode cX10_isLineEnd 10 = .ok (.aload_n 0, 1) := by decide +kernel
theorem dX10_isLineEnd_11 : decode cX10_isLineEnd 11 = .ok (.getfield 15, 3) := by decide +kernel
theorem dX10_isLineEnd_14 : decode cX10_isLineEnd 14 = .ok (.iload_n 1, 1) := by decide +kernel
theorem dX10_isLineEnd_15 : decode cX10_isLineEnd 15 = .ok (.baload, 1) := by decide +kernel
theorem dX10_isLineEnd_16 : decode cX10_isLineEnd 16 = .ok (.iconst 5, 1) := by decide +kernel
theorem dX10_isLineEnd_17 : decode cX10_isLineEnd 17 = .ok (.if_icmp .ne 7, 3) := by decide +kernel
theorem dX10_isLineEnd_20 : decode cX10_isLineEnd 20 = .ok (.iconst 1, 1) := by decide +kernel
theorem dX10_isLineEnd_21 : decode cX10_isLineEnd 21 = .ok (.goto 4, 3) := by decide +kernel
theorem dX10_isLineEnd_24 : decode cX10_isLineEnd 24 = .ok (.iconst 0, 1) := by decide +kernel
theorem dX10_isLineEnd_25 : decode cX10_isLineEnd 25 = .ok (.ireturn, 1) := by decide +kernel
theorem dX10_isSign_0 : decode cX10_isSign 0 = .ok (.aload_n 0, 1) := by decide +kernel
theorem dX10_isSign_1 : decode cX10_isSign 1 = .ok (.getfield 15, 3) := by decide +kernel
theorem dX10_isSign_4 : decode cX10_isSign 4 = .ok (.iload_n 1, 1) := by decide +kernel
theorem dX10_isSign_5 : decode cX10_isSign 5 = .ok (.baload, 1) := by decide +kernel
theorem dX10_isSign_6 : decode cX10_isSign 6 = .ok (.iconst 3, 1) := by decide +kernel
theorem dX10_isSign_7 : decode cX10_isSign 7 = .ok (.if_icmp .ne 19, 3) := by decide +kernel
theorem dX10_isSign_10 : decode cX10_isSign 10 = .ok (.aload_n 0, 1) := by decide +kernel
theorem dX10_isSign_11 : decode cX10_isSign 11 = .ok (.getfield 25, 3) := by decide +kernel
theorem dX10_isSign_14 : decode cX10_isSign 14 = .ok (.iload_n 1, 1) := by decide +kernel
theorem dX10_isSign_15 : decode cX10_isSign 15 = .ok (.laload, 1) := by decide +kernel
theorem dX10_isSign_16 : decode cX10_isSign 16 = .ok (.iload_n 2, 1) := by decide +kernel
theorem dX10_isSign_17 : decode cX10_isSign 17 = .ok (.i2l, 1) := by decide +kernel
theorem dX10_isSign_18 : decode cX10_isSign 18 = .ok (.lcmp, 1) := by decide +kernel
theorem dX10_isSign_19 : decode cX10_isSign 19 = .ok (.ifCond .ne 7, 3) := by decide +kernel
theorem dX10_isSign_22 : decode cX10_isSign 22 = .ok (.iconst 1, 1) := by decide +kernel
theorem dX10_isSign_23 : decode cX10_isSign 23 = .ok (.goto 4, 3) := by decide +kernel
theorem dX10_isSign_26 : decode cX10_isSign 26 = .ok (.iconst 0, 1) := by decide +kernel
theorem dX10_isSign_27 : decode cX10_isSign 27 = .ok (.ireturn, 1) := by decide +kernel
theorem dX8_hasTail_0 : decode cX8_hasTail 0 = .ok (.aload_n 0, 1) := by decide +kernel
theorem dX8_hasTail_1 : decode cX8_hasTail 1 = .ok (.getfield 39, 3) := by decide +kernel
theorem dX8_hasTail_4 : decode cX8_hasTail 4 = .ok (.iload_n 1, 1) := by decide +kernel
theorem dX8_hasTail_5 : decode cX8_hasTail 5 = .ok (.iconst 1, 1) := by decide +kernel
theorem dX8_hasTail_6 : decode cX8_hasTail 6 = .ok (.iadd, 1) := by decide +kernel
theorem dX8_hasTail_7 : decode cX8_hasTail 7 = .ok (.bipush 43, 2) := by decide +kernel
theorem dX8_hasTail_9 : decode cX8_hasTail 9 = .ok (.invokevirtual 117, 3) := by decide +kernel
theorem dX8_hasTail_12 : decode cX8_hasTail 12 = .ok (.ifCond .ne 18, 3) := by decide +kernel
theorem dX8_hasTail_15 : decode cX8_hasTail 15 = .ok (.aload_n 0, 1) := by decide +kernel
theorem dX8_hasTail_16 : decode cX8_hasTail 16 = .ok (.getfield 39, 3) := by decide +kernel
theorem dX8_hasTail_19 : decode cX8_hasTail 19 = .ok (.iload_n 1, 1) := by decide +kernel
theorem dX8_hasTail_20 : decode cX8_hasTail 20 = .ok (.iconst 1, 1) := by decide +kernel
theorem dX8_hasTail_21 : decode cX8_hasTail 21 = .ok (.iadd, 1) := by decide +kernel
theorem dX8_hasTail_22 : decode cX8_hasTail 22 = .ok (.bipush 45, 2) := by decide +kernel
theorem dX8_hasTail_24 : decode cX8_hasTail 24 = .ok (.invokevirtual 117, 3) := by decide +kernel
theorem dX8_hasTail_27 : decode cX8_hasTail 27 = .ok (.ifCond .eq 22, 3) := by decide +kernel
theorem dX8_hasTail_30 : decode cX8_hasTail 30 = .ok (.aload_n 0, 1) := by decide +kernel
theorem dX8_hasTail_31 : decode cX8_hasTail 31 = .ok (.getfield 39, 3) := by decide +kernel
theorem dX8_hasTail_34 : decode cX8_hasTail 34 = .ok (.getfield 148, 3) := by decide +kernel
theorem dX8_hasTail_37 : decode cX8_hasTail 37 = .ok (.iload_n 1, 1) := by decide +kernel
theorem dX8_hasTail_38 : decode cX8_hasTail 38 = .ok (.iconst 2, 1) := by decide +kernel
theorem dX8_hasTail_39 : decode cX8_hasTail 39 = .ok (.iadd, 1) := by decide +kernel
theorem dX8_hasTail_40 : decode cX8_hasTail 40 = .ok (.baload, 1) := by decide +kernel
theorem dX8_hasTail_41 : decode cX8_hasTail 41 = .ok (.iconst 2, 1) := by decide +kernel
theorem dX8_hasTail_42 : decode cX8_hasTail 42 = .ok (.if_icmp .ne 7, 3) := by decide +kernel
theorem dX8_hasTail_45 : decode cX8_hasTail 45 = .ok (.iconst 1, 1) := by decide +kernel
theorem dX8_hasTail_46 : decode cX8_hasTail 46 = .ok (.goto 4, 3) := by decide +kernel
theorem dX8_hasTail_49 : decode cX8_hasTail 49 = .ok (.iconst 0, 1) := by decide +kernel
theorem dX8_hasTail_50 : decode cX8_hasTail 50 = .ok (.ireturn, 1) := by decide +kernel
theorem dX8_operandEnd_0 : decode cX8_operandEnd 0 = .ok (.aload_n 1, 1) := by decide +kernel
theorem dX8_operandEnd_1 : decode cX8_operandEnd 1 = .ok (.getfield 251, 3) := by decide +kernel
theorem dX8_operandEnd_4 : decode cX8_operandEnd 4 = .ok (.ifCond .ne 23, 3) := by decide +kernel
theorem dX8_operandEnd_7 : decode cX8_operandEnd 7 = .ok (.aload_n 1, 1) := by decide +kernel
theorem dX8_operandEnd_8 : decode cX8_operandEnd 8 = .ok (.aload_n 0, 1) := by decide +kernel
theorem dX8_operandEnd_9 : decode cX8_operandEnd 9 = .ok (.getfield 39, 3) := by decide +kernel
theorem dX8_operandEnd_12 : decode cX8_operandEnd 12 = .ok (.iload_n 2, 1) := by decide +kernel
theorem dX8_operandEnd_13 : decode cX8_operandEnd 13 = .ok (.invokevirtual 254, 3) := by decide +kernel
theorem dX8_operandEnd_16 : decode cX8_operandEnd 16 = .ok (.ifCond .ge 7, 3) := by decide +kernel
theorem dX8_operandEnd_19 : decode cX8_operandEnd 19 = .ok (.iconst (-1), 1) := by decide +kernel
theorem dX8_operandEnd_20 : decode cX8_operandEnd 20 = .ok (.goto 6, 3) := by decide +kernel
theorem dX8_operandEnd_23 : decode cX8_operandEnd 23 = .ok (.iload_n 2, 1) := by decide +kernel
theorem dX8_operandEnd_24 : decode cX8_operandEnd 24 = .ok (.iconst 1, 1) := by decide +kernel
theorem dX8_operandEnd_25 : decode cX8_operandEnd 25 = .ok (.iadd, 1) := by decide +kernel
theorem dX8_operandEnd_26 : decode cX8_operandEnd 26 = .ok (.ireturn, 1) := by decide +kernel
theorem dX8_operandEnd_27 : decode cX8_operandEnd 27 = .ok (.aload_n 1, 1) := by decide +kernel
theorem dX8_operandEnd_28 : decode cX8_operandEnd 28 = .ok (.getfield 251, 3) := by decide +kernel
theorem dX8_operandEnd_31 : decode cX8_operandEnd 31 = .ok (.iconst 4, 1) := by decide +kernel
theorem dX8_operandEnd_32 : decode cX8_operandEnd 32 = .ok (.if_icmp .ne 23, 3) := by decide +kernel
theorem dX8_operandEnd_35 : decode cX8_operandEnd 35 = .ok (.aload_n 1, 1) := by decide +kernel
theorem dX8_operandEnd_36 : decode cX8_operandEnd 36 = .ok (.aload_n 0, 1) := by decide +kernel
theorem dX8_operandEnd_37 : decode cX8_operandEnd 37 = .ok (.getfield 39, 3) := by decide +kernel
theorem dX8_operandEnd_40 : decode cX8_operandEnd 40 = .ok (.iload_n 2, 1) := by decide +kernel
theorem dX8_operandEnd_41 : decode cX8_operandEnd 41 = .ok (.invokevirtual 257, 3) := by decide +kernel
theorem dX8_operandEnd_44 : decode cX8_operandEnd 44 = .ok (.ifCond .ge 7, 3) := by decide +kernel
theorem dX8_operandEnd_47 : decode cX8_operandEnd 47 = .ok (.iconst (-1), 1) := by decide +kernel
theorem dX8_operandEnd_48 : decode cX8_operandEnd 48 = .ok (.goto 6, 3) := by decide +kernel
theorem dX8_operandEnd_51 : decode cX8_operandEnd 51 = .ok (.iload_n 2, 1) := by decide +kernel
theorem dX8_operandEnd_52 : decode cX8_operandEnd 52 = .ok (.iconst 1, 1) := by decide +kernel
theorem dX8_operandEnd_53 : decode cX8_operandEnd 53 = .ok (.iadd, 1) := by decide +kernel
theorem dX8_operandEnd_54 : decode cX8_operandEnd 54 = .ok (.ireturn, 1) := by decide +kernel
theorem dX8_operandEnd_55 : decode cX8_operandEnd 55 = .ok (.aload_n 0, 1) := by decide +kernel
theorem dX8_operandEnd_56 : decode cX8_operandEnd 56 = .ok (.getfield 39, 3) := by decide +kernel
theorem dX8_operandEnd_59 : decode cX8_operandEnd 59 = .ok (.getfield 148, 3) := by decide +kernel
theorem dX8_operandEnd_62 : decode cX8_operandEnd 62 = .ok (.iload_n 2, 1) := by decide +kernel
theorem dX8_operandEnd_63 : decode cX8_operandEnd 63 = .ok (.baload, 1) := by decide +kernel
theorem dX8_operandEnd_64 : decode cX8_operandEnd 64 = .ok (.iconst 2, 1) := by decide +kernel
theorem dX8_operandEnd_65 : decode cX8_operandEnd 65 = .ok (.if_icmp .ne 7, 3) := by decide +kernel
theorem dX8_operandEnd_68 : decode cX8_operandEnd 68 = .ok (.iload_n 2, 1) := by decide +kernel
theorem dX8_operandEnd_69 : decode cX8_operandEnd 69 = .ok (.iconst 1, 1) := by decide +kernel
theorem dX8_operandEnd_70 : decode cX8_operandEnd 70 = .ok (.iadd, 1) := by decide +kernel
theorem dX8_operandEnd_71 : decode cX8_operandEnd 71 = .ok (.ireturn, 1) := by decide +kernel
theorem dX8_operandEnd_72 : decode cX8_operandEnd 72 = .ok (.aload_n 0, 1) := by decide +kernel
theorem dX8_operandEnd_73 : decode cX8_operandEnd 73 = .ok (.getfield 39, 3) := by decide +kernel
theorem dX8_operandEnd_76 : decode cX8_operandEnd 76 = .ok (.iload_n 2, 1) := by decide +kernel
theorem dX8_operandEnd_77 : decode cX8_operandEnd 77 = .ok (.bipush 45, 2) := by decide +kernel
theorem dX8_operandEnd_79 : decode cX8_operandEnd 79 = .ok (.invokevirtual 117, 3) := by decide +kernel
theorem dX8_operandEnd_82 : decode cX8_operandEnd 82 = .ok (.ifCond .eq 26, 3) := by decide +kernel
theorem dX8_operandEnd_85 : decode cX8_operandEnd 85 = .ok (.aload_n 0, 1) := by decide +kernel
theorem dX8_operandEnd_86 : decode cX8_operandEnd 86 = .ok (.getfield 39, 3) := by decide +kernel
theorem dX8_operandEnd_89 : decode cX8_operandEnd 89 = .ok (.getfield 148, 3) := by decide +kernel
theorem dX8_operandEnd_92 : decode cX8_operandEnd 92 = .ok (.iload_n 2, 1) := by decide +kernel
theorem dX8_operandEnd_93 : decode cX8_operandEnd 93 = .ok (.iconst 1, 1) := by decide +kernel
theorem dX8_operandEnd_94 : decode cX8_operandEnd 94 = .ok (.iadd, 1) := by decide +kernel
theorem dX8_operandEnd_95 : decode cX8_operandEnd 95 = .ok (.baload, 1) := by decide +kernel
theorem dX8_operandEnd_96 : decode cX8_operandEnd 96 = .ok (.iconst 2, 1) := by decide +kernel
theorem dX8_operandEnd_97 : decode cX8_operandEnd 97 = .ok (.if_icmp .ne 9, 3) := by decide +kernel
theorem dX8_operandEnd_100 : decode cX8_operandEnd 100 = .ok (.iload_n 2, 1) := by decide +kernel
theorem dX8_operandEnd_101 : decode cX8_operandEnd 101 = .ok (.iconst 2, 1) := by decide +kernel
theorem dX8_operandEnd_102 : decode cX8_operandEnd 102 = .ok (.iadd, 1) := by decide +kernel
theorem dX8_operandEnd_103 : decode cX8_operandEnd 103 = .ok (.goto 4, 3) := by decide +kernel
theorem dX8_operandEnd_106 : decode cX8_operandEnd 106 = .ok (.iconst (-1), 1) := by decide +kernel
theorem dX8_operandEnd_107 : decode cX8_operandEnd 107 = .ok (.ireturn, 1) := by decide +kernel
theorem dX8_operandEnd_108 : decode cX8_operandEnd 108 = .ok (.aload_n 0, 1) := by decide +kernel
theorem dX8_operandEnd_109 : decode cX8_operandEnd 109 = .ok (.getfield 39, 3) := by decide +kernel
theorem dX8_operandEnd_112 : decode cX8_operandEnd 112 = .ok (.getfield 148, 3) := by decide +kernel
theorem dX8_operandEnd_115 : decode cX8_operandEnd 115 = .ok (.iload_n 2, 1) := by decide +kernel
theorem dX8_operandEnd_116 : decode cX8_operandEnd 116 = .ok (.baload, 1) := by decide +kernel
theorem dX8_operandEnd_117 : decode cX8_operandEnd 117 = .ok (.iconst 1, 1) := by decide +kernel
theorem dX8_operandEnd_118 : decode cX8_operandEnd 118 = .ok (.if_icmp .ne 17, 3) := by decide +kernel
theorem dX8_operandEnd_121 : decode cX8_operandEnd 121 = .ok (.aload_n 0, 1) := by decide +kernel
theorem dX8_operandEnd_122 : decode cX8_operandEnd 122 = .ok (.getfield 39, 3) := by decide +kernel
theorem dX8_operandEnd_125 : decode cX8_operandEnd 125 = .ok (.getfield 202, 3) := by decide +kernel
theorem dX8_operandEnd_128 : decode cX8_operandEnd 128 = .ok (.iload_n 2, 1) := by decide +kernel
theorem dX8_operandEnd_129 : decode cX8_operandEnd 129 = .ok (.laload, 1) := by decide +kernel
theorem dX8_operandEnd_130 : decode cX8_operandEnd 130 = .ok (.lconst 0, 1) := by decide +kernel
theorem dX8_operandEnd_131 : decode cX8_operandEnd 131 = .ok (.lcmp, 1) := by decide +kernel
theorem dX8_operandEnd_132 : decode cX8_operandEnd 132 = .ok (.ifCond .ge 5, 3) := by decide +kernel
theorem dX8_operandEnd_135 : decode cX8_operandEnd 135 = .ok (.iconst (-1), 1) := by decide +kernel
theorem dX8_operandEnd_136 : decode cX8_operandEnd 136 = .ok (.ireturn, 1) := by decide +kernel
theorem dX8_operandEnd_137 : decode cX8_operandEnd 137 = .ok (.aload_n 0, 1) := by decide +kernel
theorem dX8_operandEnd_138 : decode cX8_operandEnd 138 = .ok (.iload_n 2, 1) := by decide +kernel
theorem dX8_operandEnd_139 : decode cX8_operandEnd 139 = .ok (.invokevirtual 260, 3) := by decide +kernel
theorem dX8_operandEnd_142 : decode cX8_operandEnd 142 = .ok (.ifCond .eq 9, 3) := by decide +kernel
theorem dX8_operandEnd_145 : decode cX8_operandEnd 145 = .ok (.iload_n 2, 1) := by decide +kernel
theorem dX8_operandEnd_146 : decode cX8_operandEnd 146 = .ok (.iconst 3, 1) := by decide +kernel
theorem dX8_operandEnd_147 : decode cX8_operandEnd 147 = .ok (.iadd, 1) := by decide +kernel
theorem dX8_operandEnd_148 : decode cX8_operandEnd 148 = .ok (.goto 6, 3) := by decide +kernel
theorem dX8_operandEnd_151 : decode cX8_operandEnd 151 = .ok (.iload_n 2, 1) := by decide +kernel
theorem dX8_operandEnd_152 : decode cX8_operandEnd 152 = .ok (.iconst 1, 1) := by decide +kernel
theorem dX8_operandEnd_153 : decode cX8_operandEnd 153 = .ok (.iadd, 1) := by decide +kernel
theorem dX8_operandEnd_154 : decode cX8_operandEnd 154 = .ok (.ireturn, 1) := by decide +kernel
theorem dX8_isWrittenAs_0 : decode cX8_isWrittenAs 0 = .ok (.aload_n 1, 1) := by decide +kernel
theorem dX8_isWrittenAs_1 : decode cX8_isWrittenAs 1 = .ok (.getfield 104, 3) := by decide +kernel
theorem dX8_isWrittenAs_4 : decode cX8_isWrittenAs 4 = .ok (.iconst 1, 1) := by decide +kernel
theorem dX8_isWrittenAs_5 : decode cX8_isWrittenAs 5 = .ok (.iadd, 1) := by decide +kernel
theorem dX8_isWrittenAs_6 : decode cX8_isWrittenAs 6 = .ok (.istore_n 3, 1) := by decide +kernel
theorem dX8_isWrittenAs_7 : decode cX8_isWrittenAs 7 = .ok (.iconst 0, 1) := by decide +kernel
theorem dX8_isWrittenAs_8 : decode cX8_isWrittenAs 8 = .ok (.istore 4, 2) := by decide +kernel
theorem dX8_isWrittenAs_10 : decode cX8_isWrittenAs 10 = .ok (.iload 4, 2) := by decide +kernel
theorem dX8_isWrittenAs_12 : decode cX8_isWrittenAs 12 = .ok (.aload_n 2, 1) := by decide +kernel
theorem dX8_isWrittenAs_13 : decode cX8_isWrittenAs 13 = .ok (.getfield 234, 3) := by decide +kernel
theorem dX8_isWrittenAs_16 : decode cX8_isWrittenAs 16 = .ok (.if_icmp .ge 79, 3) := by decide +kernel
theorem dX8_isWrittenAs_19 : decode cX8_isWrittenAs 19 = .ok (.aload_n 2, 1) := by decide +kernel
theorem dX8_isWrittenAs_20 : decode cX8_isWrittenAs 20 = .ok (.getfield 237, 3) := by decide +kernel
theorem dX8_isWrittenAs_23 : decode cX8_isWrittenAs 23 = .ok (.iload 4, 2) := by decide +kernel
theorem dX8_isWrittenAs_25 : decode cX8_isWrittenAs 25 = .ok (.iaload, 1) := by decide +kernel
theorem dX8_isWrittenAs_26 : decode cX8_isWrittenAs 26 = .ok (.istore 5, 2) := by decide +kernel
theorem dX8_isWrittenAs_28 : decode cX8_isWrittenAs 28 = .ok (.iload_n 3, 1) := by decide +kernel
theorem dX8_isWrittenAs_29 : decode cX8_isWrittenAs 29 = .ok (.iconst 1, 1) := by decide +kernel
theorem dX8_isWrittenAs_30 : decode cX8_isWrittenAs 30 = .ok (.iadd, 1) := by decide +kernel
theorem dX8_isWrittenAs_31 : decode cX8_isWrittenAs 31 = .ok (.istore 6, 2) := by decide +kernel
theorem dX8_isWrittenAs_33 : decode cX8_isWrittenAs 33 = .ok (.iload 5, 2) := by decide +kernel
theorem dX8_isWrittenAs_35 : decode cX8_isWrittenAs 35 = .ok (.ifCond .lt 18, 3) := by decide +kernel
theorem dX8_isWrittenAs_38 : decode cX8_isWrittenAs 38 = .ok (.aload_n 0, 1) := by decide +kernel
theorem dX8_isWrittenAs_39 : decode cX8_isWrittenAs 39 = .ok (.getfield 39, 3) := by decide +kernel
theorem dX8_isWrittenAs_42 : decode cX8_isWrittenAs 42 = .ok (.iload_n 3, 1) := by decide +kernel
theorem dX8_isWrittenAs_43 : decode cX8_isWrittenAs 43 = .ok (.iload 5, 2) := by decide +kernel
theorem dX8_isWrittenAs_45 : decode cX8_isWrittenAs 45 = .ok (.invokevirtual 117, 3) := by decide +kernel
theorem dX8_isWrittenAs_48 : decode cX8_isWrittenAs 48 = .ok (.ifCond .ne 38, 3) := by decide +kernel
theorem dX8_isWrittenAs_51 : decode cX8_isWrittenAs 51 = .ok (.iconst 0, 1) := by decide +kernel
theorem dX8_isWrittenAs_52 : decode cX8_isWrittenAs 52 = .ok (.ireturn, 1) := by decide +kernel
theorem dX8_isWrittenAs_53 : decode cX8_isWrittenAs 53 = .ok (.aload_n 0, 1) := by decide +kernel
theorem dX8_isWrittenAs_54 : decode cX8_isWrittenAs 54 = .ok (.aload_n 2, 1) := by decide +kernel
theorem dX8_isWrittenAs_55 : decode cX8_isWrittenAs 55 = .ok (.getfield 240, 3) := by decide +kernel
theorem dX8_isWrittenAs_58 : decode cX8_isWrittenAs 58 = .ok (.iconst (-1), 1) := by decide +kernel
theorem dX8_isWrittenAs_59 : decode cX8_isWrittenAs 59 = .ok (.iload 5, 2) := by decide +kernel
theorem dX8_isWrittenAs_61 : decode cX8_isWrittenAs 61 = .ok (.isub, 1) := by decide +kernel
theorem dX8_isWrittenAs_62 : decode cX8_isWrittenAs 62 = .ok (.aaload, 1) := by decide +kernel
theorem dX8_isWrittenAs_63 : decode cX8_isWrittenAs 63 = .ok (.iload_n 3, 1) := by decide +kernel
theorem dX8_isWrittenAs_64 : decode cX8_isWrittenAs 64 = .ok (.invokevirtual 244, 3) := by decide +kernel
theorem dX8_isWrittenAs_67 : decode cX8_isWrittenAs 67 = .ok (.istore 6, 2) := by decide +kernel
theorem dX8_isWrittenAs_69 : decode cX8_isWrittenAs 69 = .ok (.iload 6, 2) := by decide +kernel
theorem dX8_isWrittenAs_71 : decode cX8_isWrittenAs 71 = .ok (.ifCond .ge 5, 3) := by decide +kernel
theorem dX8_isWrittenAs_74 : decode cX8_isWrittenAs 74 = .ok (.iconst 0, 1) := by decide +kernel
theorem dX8_isWrittenAs_75 : decode cX8_isWrittenAs 75 = .ok (.ireturn, 1) := by decide +kernel
theorem dX8_isWrittenAs_76 : decode cX8_isWrittenAs 76 = .ok (.aload_n 1, 1) := by decide +kernel
theorem dX8_isWrittenAs_77 : decode cX8_isWrittenAs 77 = .ok (.getfield 248, 3) := by decide +kernel
theorem dX8_isWrittenAs_80 : decode cX8_isWrittenAs 80 = .ok (.iconst (-1), 1) := by decide +kernel
theorem dX8_isWrittenAs_81 : decode cX8_isWrittenAs 81 = .ok (.iload 5, 2) := by decide +kernel
theorem dX8_isWrittenAs_83 : decode cX8_isWrittenAs 83 = .ok (.isub, 1) := by decide +kernel
theorem dX8_isWrittenAs_84 : decode cX8_isWrittenAs 84 = .ok (.iload_n 3, 1) := by decide +kernel
theorem dX8_isWrittenAs_85 : decode cX8_isWrittenAs 85 = .ok (.iastore, 1) := by decide +kernel
theorem dX8_isWrittenAs_86 : decode cX8_isWrittenAs 86 = .ok (.iload 6, 2) := by decide +kernel
theorem dX8_isWrittenAs_88 : decode cX8_isWrittenAs 88 = .ok (.istore_n 3, 1) := by decide +kernel
theorem dX8_isWrittenAs_89 : decode cX8_isWrittenAs 89 = .ok (.iinc 4 1, 3) := by decide +kernel
theorem dX8_isWrittenAs_92 : decode cX8_isWrittenAs 92 = .ok (.goto (-82), 3) := by decide +kernel
theorem dX8_isWrittenAs_95 : decode cX8_isWrittenAs 95 = .ok (.aload_n 0, 1) := by decide +kernel
theorem dX8_isWrittenAs_96 : decode cX8_isWrittenAs 96 = .ok (.getfield 39, 3) := by decide +kernel
theorem dX8_isWrittenAs_99 : decode cX8_isWrittenAs 99 = .ok (.iload_n 3, 1) := by decide +kernel
theorem dX8_isWrittenAs_100 : decode cX8_isWrittenAs 100 = .ok (.invokevirtual 145, 3) := by decide +kernel
theorem dX8_isWrittenAs_103 : decode cX8_isWrittenAs 103 = .ok (.ireturn, 1) := by decide +kernel
theorem dX8_takeNextForm_0 : decode cX8_takeNextForm 0 = .ok (.aload_n 1, 1) := by decide +kernel
theorem dX8_takeNextForm_1 : decode cX8_takeNextForm 1 = .ok (.getfield 205, 3) := by decide +kernel
theorem dX8_takeNextForm_4 : decode cX8_takeNextForm 4 = .ok (.iconst 1, 1) := by decide +kernel
theorem dX8_takeNextForm_5 : decode cX8_takeNextForm 5 = .ok (.iadd, 1) := by decide +kernel
theorem dX8_takeNextForm_6 : decode cX8_takeNextForm 6 = .ok (.istore_n 2, 1) := by decide +kernel
theorem dX8_takeNextForm_7 : decode cX8_takeNextForm 7 = .ok (.iload_n 2, 1) := by decide +kernel
theorem dX8_takeNextForm_8 : decode cX8_takeNextForm 8 = .ok (.aload_n 0, 1) := by decide +kernel
theorem dX8_takeNextForm_9 : decode cX8_takeNextForm 9 = .ok (.getfield 40, 3) := by decide +kernel
theorem dX8_takeNextForm_12 : decode cX8_takeNextForm 12 = .ok (.getfield 208, 3) := by decide +kernel
theorem dX8_takeNextForm_15 : decode cX8_takeNextForm 15 = .ok (.if_icmp .ge 61, 3) := by decide +kernel
theorem dX8_takeNextForm_18 : decode cX8_takeNextForm 18 = .ok (.aload_n 0, 1) := by decide +kernel
theorem dX8_takeNextForm_19 : decode cX8_takeNextForm 19 = .ok (.getfield 40, 3) := by decide +kernel
theorem dX8_takeNextForm_22 : decode cX8_takeNextForm 22 = .ok (.getfield 211, 3) := by decide +kernel
theorem dX8_takeNextForm_25 : decode cX8_takeNextForm 25 = .ok (.iload_n 2, 1) := by decide +kernel
theorem dX8_takeNextForm_26 : decode cX8_takeNextForm 26 = .ok (.aaload, 1) := by decide +kernel
theorem dX8_takeNextForm_27 : decode cX8_takeNextForm 27 = .ok (.astore_n 3, 1) := by decide +kernel
theorem dX8_takeNextForm_28 : decode cX8_takeNextForm 28 = .ok (.aload_n 3, 1) := by decide +kernel
theorem dX8_takeNextForm_29 : decode cX8_takeNextForm 29 = .ok (.getfield 215, 3) := by decide +kernel
theorem dX8_takeNextForm_32 : decode cX8_takeNextForm 32 = .ok (.aload_n 0, 1) := by decide +kernel
theorem dX8_takeNextForm_33 : decode cX8_takeNextForm 33 = .ok (.getfield 39, 3) := by decide +kernel
theorem dX8_takeNextForm_36 : decode cX8_takeNextForm 36 = .ok (.aload_n 1, 1) := by decide +kernel
theorem dX8_takeNextForm_37 : decode cX8_takeNextForm 37 = .ok (.getfield 104, 3) := by decide +kernel
theorem dX8_takeNextForm_40 : decode cX8_takeNextForm 40 = .ok (.invokevirtual 221, 3) := by decide +kernel
theorem dX8_takeNextForm_43 : decode cX8_takeNextForm 43 = .ok (.ifCond .ne 27, 3) := by decide +kernel
theorem dX8_takeNextForm_46 : decode cX8_takeNextForm 46 = .ok (.aload_n 0, 1) := by decide +kernel
theorem dX8_takeNextForm_47 : decode cX8_takeNextForm 47 = .ok (.aload_n 1, 1) := by decide +kernel
theorem dX8_takeNextForm_48 : decode cX8_takeNextForm 48 = .ok (.aload_n 3, 1) := by decide +kernel
theorem dX8_takeNextForm_49 : decode cX8_takeNextForm 49 = .ok (.invokevirtual 227, 3) := by decide +kernel
theorem dX8_takeNextForm_52 : decode cX8_takeNextForm 52 = .ok (.ifCond .eq 18, 3) := by decide +kernel
theorem dX8_takeNextForm_55 : decode cX8_takeNextForm 55 = .ok (.aload_n 1, 1) := by decide +kernel
theorem dX8_takeNextForm_56 : decode cX8_takeNextForm 56 = .ok (.iload_n 2, 1) := by decide +kernel
theorem dX8_takeNextForm_57 : decode cX8_takeNextForm 57 = .ok (.putfield 205, 3) := by decide +kernel
theorem dX8_takeNextForm_60 : decode cX8_takeNextForm 60 = .ok (.aload_n 1, 1) := by decide +kernel
theorem dX8_takeNextForm_61 : decode cX8_takeNextForm 61 = .ok (.aload_n 3, 1) := by decide +kernel
theorem dX8_takeNextForm_62 : decode cX8_takeNextForm 62 = .ok (.getfield 231, 3) := by decide +kernel
theorem dX8_takeNextForm_65 : decode cX8_takeNextForm 65 = .ok (.putfield 177, 3) := by decide +kernel
theorem dX8_takeNextForm_68 : decode cX8_takeNextForm 68 = .ok (.iconst 1, 1) := by decide +kernel
theorem dX8_takeNextForm_69 : decode cX8_takeNextForm 69 = .ok (.ireturn, 1) := by decide +kernel
theorem dX8_takeNextForm_70 : decode cX8_takeNextForm 70 = .ok (.iinc 2 1, 3) := by decide +kernel
theorem dX8_takeNextForm_73 : decode cX8_takeNextForm 73 = .ok (.goto (-66), 3) := by decide +kernel
theorem dX8_takeNextForm_76 : decode cX8_takeNextForm 76 = .ok (.iconst 0, 1) := by decide +kernel
theorem dX8_takeNextForm_77 : decode cX8_takeNextForm 77 = .ok (.ireturn, 1) := by decide +kernel
theorem dX8_readWords_0 : decode cX8_readWords 0 = .ok (.aload_n 0, 1) := by decide +kernel
theorem dX8_readWords_1 : decode cX8_readWords 1 = .ok (.getfield 39, 3) := by decide +kernel
theorem dX8_readWords_4 : decode cX8_readWords 4 = .ok (.aload_n 0, 1) := by decide +kernel
theorem dX8_readWords_5 : decode cX8_readWords 5 = .ok (.getfield 29, 3) := by decide +kernel
theorem dX8_readWords_8 : decode cX8_readWords 8 = .ok (.getfield 111, 3) := by decide +kernel
theorem dX8_readWords_11 : decode cX8_readWords 11 = .ok (.ldc 169, 2) := by decide +kernel
theorem dX8_readWords_13 : decode cX8_readWords 13 = .ok (.invokevirtual 153, 3) := by decide +kernel
theorem dX8_readWords_16 : decode cX8_readWords 16 = .ok (.ifCond .ne 13, 3) := by decide +kernel
theorem dX8_readWords_19 : decode cX8_readWords 19 = .ok (.aload_n 0, 1) := by decide +kernel
theorem dX8_readWords_20 : decode cX8_readWords 20 = .ok (.getfield 29, 3) := by decide +kernel
theorem dX8_readWords_23 : decode cX8_readWords 23 = .ok (.iconst 1, 1) := by decide +kernel
theorem dX8_readWords_24 : decode cX8_readWords 24 = .ok (.invokevirtual 125, 3) := by decide +kernel
theorem dX8_readWords_27 : decode cX8_readWords 27 = .ok (.pop, 1) := by decide +kernel
theorem dX8_readWords_28 : decode cX8_readWords 28 = .ok (.return_, 1) := by decide +kernel
theorem dX8_readWords_29 : decode cX8_readWords 29 = .ok (.iconst 1, 1) := by decide +kernel
theorem dX8_readWords_30 : decode cX8_readWords 30 = .ok (.istore_n 2, 1) := by decide +kernel
theorem dX8_readWords_31 : decode cX8_readWords 31 = .ok (.iconst 0, 1) := by decide +kernel
theorem dX8_readWords_32 : decode cX8_readWords 32 = .ok (.istore_n 3, 1) := by decide +kernel
theorem dX8_readWords_33 : decode cX8_readWords 33 = .ok (.iload_n 3, 1) := by decide +kernel
theorem dX8_readWords_34 : decode cX8_readWords 34 = .ok (.aload_n 0, 1) := by decide +kernel
theorem dX8_readWords_35 : decode cX8_readWords 35 = .ok (.getfield 39, 3) := by decide +kernel
theorem dX8_readWords_38 : decode cX8_readWords 38 = .ok (.getfield 68, 3) := by decide +kernel
theorem dX8_readWords_41 : decode cX8_readWords 41 = .ok (.if_icmp .gt 80, 3) := by decide +kernel
theorem dX8_readWords_44 : decode cX8_readWords 44 = .ok (.iload_n 2, 1) := by decide +kernel
theorem dX8_readWords_45 : decode cX8_readWords 45 = .ok (.ifCond .eq 76, 3) := by decide +kernel
theorem dX8_readWords_48 : decode cX8_readWords 48 = .ok (.aload_n 0, 1) := by decide +kernel
theorem dX8_readWords_49 : decode cX8_readWords 49 = .ok (.getfield 29, 3) := by decide +kernel
theorem dX8_readWords_52 : decode cX8_readWords 52 = .ok (.dup, 1) := by decide +kernel
theorem dX8_readWords_53 : decode cX8_readWords 53 = .ok (.getfield 111, 3) := by decide +kernel
theorem dX8_readWords_56 : decode cX8_readWords 56 = .ok (.iconst 1, 1) := by decide +kernel
theorem dX8_readWords_57 : decode cX8_readWords 57 = .ok (.iadd, 1) := by decide +kernel
theorem dX8_readWords_58 : decode cX8_readWords 58 = .ok (.putfield 111, 3) := by decide +kernel
theorem dX8_readWords_61 : decode cX8_readWords 61 = .ok (.aload_n 0, 1) := by decide +kernel
theorem dX8_readWords_62 : decode cX8_readWords 62 = .ok (.getfield 29, 3) := by decide +kernel
theorem dX8_readWords_65 : decode cX8_readWords 65 = .ok (.lconst 0, 1) := by decide +kernel
theorem dX8_readWords_66 : decode cX8_readWords 66 = .ok (.aload_n 0, 1) := by decide +kernel
theorem dX8_readWords_67 : decode cX8_readWords 67 = .ok (.getfield 40, 3) := by decide +kernel
theorem dX8_readWords_70 : decode cX8_readWords 70 = .ok (.invokevirtual 171, 3) := by decide +kernel
theorem dX8_readWords_73 : decode cX8_readWords 73 = .ok (.invokevirtual 162, 3) := by decide +kernel
theorem dX8_readWords_76 : decode cX8_readWords 76 = .ok (.pop2, 1) := by decide +kernel
theorem dX8_readWords_77 : decode cX8_readWords 77 = .ok (.aload_n 1, 1) := by decide +kernel
theorem dX8_readWords_78 : decode cX8_readWords 78 = .ok (.dup, 1) := by decide +kernel
theorem dX8_readWords_79 : decode cX8_readWords 79 = .ok (.getfield 177, 3) := by decide +kernel
theorem dX8_readWords_82 : decode cX8_readWords 82 = .ok (.iconst 1, 1) := by decide +kernel
theorem dX8_readWords_83 : decode cX8_readWords 83 = .ok (.iadd, 1) := by decide +kernel
theorem dX8_readWords_84 : decode cX8_readWords 84 = .ok (.putfield 177, 3) := by decide +kernel
theorem dX8_readWords_87 : decode cX8_readWords 87 = .ok (.aload_n 0, 1) := by decide +kernel
theorem dX8_readWords_88 : decode cX8_readWords 88 = .ok (.getfield 29, 3) := by decide +kernel
theorem dX8_readWords_91 : decode cX8_readWords 91 = .ok (.invokevirtual 84, 3) := by decide +kernel
theorem dX8_readWords_94 : decode cX8_readWords 94 = .ok (.ifCond .ne 19, 3) := by decide +kernel
theorem dX8_readWords_97 : decode cX8_readWords 97 = .ok (.aload_n 0, 1) := by decide +kernel
theorem dX8_readWords_98 : decode cX8_readWords 98 = .ok (.getfield 29, 3) := by decide +kernel
theorem dX8_readWords_101 : decode cX8_readWords 101 = .ok (.bipush 44, 2) := by decide +kernel
theorem dX8_readWords_103 : decode cX8_readWords 103 = .ok (.invokevirtual 180, 3) := by decide +kernel
theorem dX8_readWords_106 : decode cX8_readWords 106 = .ok (.ifCond .eq 7, 3) := by decide +kernel
theorem dX8_readWords_109 : decode cX8_readWords 109 = .ok (.iconst 1, 1) := by decide +kernel
theorem dX8_readWords_110 : decode cX8_readWords 110 = .ok (.goto 4, 3) := by decide +kernel
theorem dX8_readWords_113 : decode cX8_readWords 113 = .ok (.iconst 0, 1) := by decide +kernel
theorem dX8_readWords_114 : decode cX8_readWords 114 = .ok (.istore_n 2, 1) := by decide +kernel
theorem dX8_readWords_115 : decode cX8_readWords 115 = .ok (.iinc 3 1, 3) := by decide +kernel
theorem dX8_readWords_118 : decode cX8_readWords 118 = .ok (.goto (-85), 3) := by decide +kernel
theorem dX8_readWords_121 : decode cX8_readWords 121 = .ok (.return_, 1) := by decide +kernel
theorem dX8_skipToLineEnd_0 : decode cX8_skipToLineEnd 0 = .ok (.aload_n 0, 1) := by decide +kernel
theorem dX8_skipToLineEnd_1 : decode cX8_skipToLineEnd 1 = .ok (.getfield 29, 3) := by decide +kernel
theorem dX8_skipToLineEnd_4 : decode cX8_skipToLineEnd 4 = .ok (.getfield 111, 3) := by decide +kernel
theorem dX8_skipToLineEnd_7 : decode cX8_skipToLineEnd 7 = .ok (.istore_n 1, 1) := by decide +kernel
theorem dX8_skipToLineEnd_8 : decode cX8_skipToLineEnd 8 = .ok (.iload_n 1, 1) := by decide +kernel
theorem dX8_skipToLineEnd_9 : decode cX8_skipToLineEnd 9 = .ok (.aload_n 0, 1) := by decide +kernel
theorem dX8_skipToLineEnd_10 : decode cX8_skipToLineEnd 10 = .ok (.getfield 39, 3) := by decide +kernel
theorem dX8_skipToLineEnd_13 : decode cX8_skipToLineEnd 13 = .ok (.getfield 68, 3) := by decide +kernel
theorem dX8_skipToLineEnd_16 : decode cX8_skipToLineEnd 16 = .ok (.if_icmp .ge 22, 3) := by decide +kernel
theorem dX8_skipToLineEnd_19 : decode cX8_skipToLineEnd 19 = .ok (.aload_n 0, 1) := by decide +kernel
theorem dX8_skipToLineEnd_20 : decode cX8_skipToLineEnd 20 = .ok (.getfield 39, 3) := by decide +kernel
theorem dX8_skipToLineEnd_23 : decode cX8_skipToLineEnd 23 = .ok (.getfield 148, 3) := by decide +kernel
theorem dX8_skipToLineEnd_26 : decode cX8_skipToLineEnd 26 = .ok (.iload_n 1, 1) := by decide +kernel
theorem dX8_skipToLineEnd_27 : decode cX8_skipToLineEnd 27 = .ok (.baload, 1) := by decide +kernel
theorem dX8_skipToLineEnd_28 : decode cX8_skipToLineEnd 28 = .ok (.iconst 4, 1) := by decide +kernel
theorem dX8_skipToLineEnd_29 : decode cX8_skipToLineEnd 29 = .ok (.if_icmp .eq 9, 3) := by decide +kernel
theorem dX8_skipToLineEnd_32 : decode cX8_skipToLineEnd 32 = .ok (.iinc 1 1, 3) := by decide +kernel
theorem dX8_skipToLineEnd_35 : decode cX8_skipToLineEnd 35 = .ok (.goto (-27), 3) := by decide +kernel
theorem dX8_skipToLineEnd_38 : decode cX8_skipToLineEnd 38 = .ok (.aload_n 0, 1) := by decide +kernel
theorem dX8_skipToLineEnd_39 : decode cX8_skipToLineEnd 39 = .ok (.getfield 29, 3) := by decide +kernel
theorem dX8_skipToLineEnd_42 : decode cX8_skipToLineEnd 42 = .ok (.iload_n 1, 1) := by decide +kernel
theorem dX8_skipToLineEnd_43 : decode cX8_skipToLineEnd 43 = .ok (.putfield 111, 3) := by decide +kernel
theorem dX8_skipToLineEnd_46 : decode cX8_skipToLineEnd 46 = .ok (.return_, 1) := by decide +kernel
theorem dX8_readStatement_0 : decode cX8_readStatement 0 = .ok (.aload_n 1, 1) := by decide +kernel
theorem dX8_readStatement_1 : decode cX8_readStatement 1 = .ok (.getfield 93, 3) := by decide +kernel
theorem dX8_readStatement_4 : decode cX8_readStatement 4 = .ok (.iconst 1, 1) := by decide +kernel
theorem dX8_readStatement_5 : decode cX8_readStatement 5 = .ok (.if_icmp .ne 10, 3) := by decide +kernel
theorem dX8_readStatement_8 : decode cX8_readStatement 8 = .ok (.aload_n 0, 1) := by decide +kernel
theorem dX8_readStatement_9 : decode cX8_readStatement 9 = .ok (.invokevirtual 157, 3) := by decide +kernel
theorem dX8_readStatement_12 : decode cX8_readStatement 12 = .ok (.goto 65, 3) := by decide +kernel
theorem dX8_readStatement_15 : decode cX8_readStatement 15 = .ok (.aload_n 1, 1) := by decide +kernel
theorem dX8_readStatement_16 : decode cX8_readStatement 16 = .ok (.getfield 93, 3) := by decide +kernel
theorem dX8_readStatement_19 : decode cX8_readStatement 19 = .ok (.iconst 3, 1) := by decide +kernel
theorem dX8_readStatement_20 : decode cX8_readStatement 20 = .ok (.if_icmp .ne 31, 3) := by decide +kernel
theorem dX8_readStatement_23 : decode cX8_readStatement 23 = .ok (.aload_n 0, 1) := by decide +kernel
theorem dX8_readStatement_24 : decode cX8_readStatement 24 = .ok (.getfield 29, 3) := by decide +kernel
theorem dX8_readStatement_27 : decode cX8_readStatement 27 = .ok (.dup, 1) := by decide +kernel
theorem dX8_readStatement_28 : decode cX8_readStatement 28 = .ok (.getfield 111, 3) := by decide +kernel
theorem dX8_readStatement_31 : decode cX8_readStatement 31 = .ok (.iconst 2, 1) := by decide +kernel
theorem dX8_readStatement_32 : decode cX8_readStatement 32 = .ok (.iadd, 1) := by decide +kernel
theorem dX8_readStatement_33 : decode cX8_readStatement 33 = .ok (.putfield 111, 3) := by decide +kernel
theorem dX8_readStatement_36 : decode cX8_readStatement 36 = .ok (.aload_n 0, 1) := by decide +kernel
theorem dX8_readStatement_37 : decode cX8_readStatement 37 = .ok (.getfield 29, 3) := by decide +kernel
theorem dX8_readStatement_40 : decode cX8_readStatement 40 = .ok (.lconst 0, 1) := by decide +kernel
theorem dX8_readStatement_41 : decode cX8_readStatement 41 = .ok (.ldc2_w 160, 3) := by decide +kernel
theorem dX8_readStatement_44 : decode cX8_readStatement 44 = .ok (.invokevirtual 162, 3) := by decide +kernel
theorem dX8_readStatement_47 : decode cX8_readStatement 47 = .ok (.pop2, 1) := by decide +kernel
theorem dX8_readStatement_48 : decode cX8_readStatement 48 = .ok (.goto 29, 3) := by decide +kernel
theorem dX8_readStatement_51 : decode cX8_readStatement 51 = .ok (.aload_n 1, 1) := by decide +kernel
theorem dX8_readStatement_52 : decode cX8_readStatement 52 = .ok (.getfield 93, 3) := by decide +kernel
theorem dX8_readStatement_55 : decode cX8_readStatement 55 = .ok (.iconst 2, 1) := by decide +kernel
theorem dX8_readStatement_56 : decode cX8_readStatement 56 = .ok (.if_icmp .ne 21, 3) := by decide +kernel
theorem dX8_readStatement_59 : decode cX8_readStatement 59 = .ok (.aload_n 0, 1) := by decide +kernel
theorem dX8_readStatement_60 : decode cX8_readStatement 60 = .ok (.getfield 29, 3) := by decide +kernel
theorem dX8_readStatement_63 : decode cX8_readStatement 63 = .ok (.dup, 1) := by decide +kernel
theorem dX8_readStatement_64 : decode cX8_readStatement 64 = .ok (.getfield 111, 3) := by decide +kernel
theorem dX8_readStatement_67 : decode cX8_readStatement 67 = .ok (.iconst 1, 1) := by decide +kernel
theorem dX8_readStatement_68 : decode cX8_readStatement 68 = .ok (.iadd, 1) := by decide +kernel
theorem dX8_readStatement_69 : decode cX8_readStatement 69 = .ok (.putfield 111, 3) := by decide +kernel
theorem dX8_readStatement_72 : decode cX8_readStatement 72 = .ok (.aload_n 0, 1) := by decide +kernel
theorem dX8_readStatement_73 : decode cX8_readStatement 73 = .ok (.aload_n 1, 1) := by decide +kernel
theorem dX8_readStatement_74 : decode cX8_readStatement 74 = .ok (.invokevirtual 166, 3) := by decide +kernel
theorem dX8_readStatement_77 : decode cX8_readStatement 77 = .ok (.return_, 1) := by decide +kernel
theorem dJ8_newLength_cabcc_0 : decode cJ8_newLength_cabcc 0 = .ok (.iload_n 0, 1) := by decide +kernel
theorem dJ8_newLength_cabcc_1 : decode cJ8_newLength_cabcc 1 = .ok (.iload_n 1, 1) := by decide +kernel
theorem dJ8_newLength_cabcc_2 : decode cJ8_newLength_cabcc 2 = .ok (.iload_n 2, 1) := by decide +kernel
theorem dJ8_newLength_cabcc_3 : decode cJ8_newLength_cabcc 3 = .ok (.invokestatic 194, 3) := by decide +kernel
theorem dJ8_newLength_cabcc_6 : decode cJ8_newLength_cabcc 6 = .ok (.iadd, 1) := by decide +kernel
theorem dJ8_newLength_cabcc_7 : decode cJ8_newLength_cabcc 7 = .ok (.istore_n 3, 1) := by decide +kernel
theorem dJ8_newLength_cabcc_8 : decode cJ8_newLength_cabcc 8 = .ok (.iconst 0, 1) := by decide +kernel
theorem dJ8_newLength_cabcc_9 : decode cJ8_newLength_cabcc 9 = .ok (.iload_n 3, 1) := by decide +kernel
theorem dJ8_newLength_cabcc_10 : decode cJ8_newLength_cabcc 10 = .ok (.if_icmp .ge 11, 3) := by decide +kernel
theorem dJ8_newLength_cabcc_13 : decode cJ8_newLength_cabcc 13 = .ok (.iload_n 3, 1) := by decide +kernel
theorem dJ8_newLength_cabcc_14 : decode cJ8_newLength_cabcc 14 = .ok (.ldc 200, 2) := by decide +kernel
theorem dJ8_newLength_cabcc_16 : decode cJ8_newLength_cabcc 16 = .ok (.if_icmp .gt 5, 3) := by decide +kernel
theorem dJ8_newLength_cabcc_19 : decode cJ8_newLength_cabcc 19 = .ok (.iload_n 3, 1) := by decide +kernel
theorem dJ8_newLength_cabcc_20 : decode cJ8_newLength_cabcc 20 = .ok (.ireturn, 1) := by decide +kernel
theorem dJ8_newLength_cabcc_21 : decode cJ8_newLength_cabcc 21 = .ok (.iload_n 0, 1) := by decide +kernel
theorem dJ8_newLength_cabcc_22 : decode cJ8_newLength_cabcc 22 = .ok (.iload_n 1, 1) := by decide +kernel
theorem dJ8_newLength_cabcc_23 : decode cJ8_newLength_cabcc 23 = .ok (.invokestatic 201, 3) := by decide +kernel
theorem dJ8_newLength_cabcc_26 : decode cJ8_newLength_cabcc 26 = .ok (.ireturn, 1) := by decide +kernel
theorem dJ7_copyOf_6403c_0 : decode cJ7_copyOf_6403c 0 = .ok (.aload_n 2, 1) := by decide +kernel
theorem dJ7_copyOf_6403c_1 : decode cJ7_copyOf_6403c 1 = .ok (.ldc 110, 2) := by decide +kernel
theorem dJ7_copyOf_6403c_3 : decode cJ7_copyOf_6403c 3 = .ok (.if_acmp .ne 10, 3) := by decide +kernel
theorem dJ7_copyOf_6403c_6 : decode cJ7_copyOf_6403c 6 = .ok (.iload_n 1, 1) := by decide +kernel
theorem dJ7_copyOf_6403c_7 : decode cJ7_copyOf_6403c 7 = .ok (.anewarray 2, 3) := by decide +kernel
theorem dJ7_copyOf_6403c_10 : decode cJ7_copyOf_6403c 10 = .ok (.goto 14, 3) := by decide +kernel
theorem dJ7_copyOf_6403c_13 : decode cJ7_copyOf_6403c 13 = .ok (.aload_n 2, 1) := by decide +kernel
theorem dJ7_copyOf_6403c_14 : decode cJ7_copyOf_6403c 14 = .ok (.invokevirtual 90, 3) := by decide +kernel
theorem dJ7_copyOf_6403c_17 : decode cJ7_copyOf_6403c 17 = .ok (.iload_n 1, 1) := by decide +kernel
theorem dJ7_copyOf_6403c_18 : decode cJ7_copyOf_6403c 18 = .ok (.invokestatic 95, 3) := by decide +kernel
theorem dJ7_copyOf_6403c_21 : decode cJ7_copyOf_6403c 21 = .ok (.checkcast 110, 3) := by decide +kernel
theorem dJ7_copyOf_6403c_24 : decode cJ7_copyOf_6403c 24 = .ok (.astore_n 3, 1) := by decide +kernel
theorem dJ7_copyOf_6403c_25 : decode cJ7_copyOf_6403c 25 = .ok (.aload_n 0, 1) := by decide +kernel
theorem dJ7_copyOf_6403c_26 : decode cJ7_copyOf_6403c 26 = .ok (.iconst 0, 1) := by decide +kernel
theorem dJ7_copyOf_6403c_27 : decode cJ7_copyOf_6403c 27 = .ok (.aload_n 3, 1) := by decide +kernel
theorem dJ7_copyOf_6403c_28 : decode cJ7_copyOf_6403c 28 = .ok (.iconst 0, 1) := by decide +kernel
theorem dJ7_copyOf_6403c_29 : decode cJ7_copyOf_6403c 29 = .ok (.aload_n 0, 1) := by decide +kernel
theorem dJ7_copyOf_6403c_30 : decode cJ7_copyOf_6403c 30 = .ok (.arraylength, 1) := by decide +kernel
theorem dJ7_copyOf_6403c_31 : decode cJ7_copyOf_6403c 31 = .ok (.iload_n 1, 1) := by decide +kernel
theorem dJ7_copyOf_6403c_32 : decode cJ7_copyOf_6403c 32 = .ok (.invokestatic 304, 3) := by decide +kernel
theorem dJ7_copyOf_6403c_35 : decode cJ7_copyOf_6403c 35 = .ok (.invokestatic 150, 3) := by decide +kernel
theorem dJ7_copyOf_6403c_38 : decode cJ7_copyOf_6403c 38 = .ok (.aload_n 3, 1) := by decide +kernel
theorem dJ7_copyOf_6403c_39 : decode cJ7_copyOf_6403c 39 = .ok (.areturn, 1) := by decide +kernel
theorem dJ7_copyOf_1904c_0 : decode cJ7_copyOf_1904c 0 = .ok (.aload_n 0, 1) := by decide +kernel
theorem dJ7_copyOf_1904c_1 : decode cJ7_copyOf_1904c 1 = .ok (.iload_n 1, 1) := by decide +kernel
theorem dJ7_copyOf_1904c_2 : decode cJ7_copyOf_1904c 2 = .ok (.aload_n 0, 1) := by decide +kernel
theorem dJ7_copyOf_1904c_3 : decode cJ7_copyOf_1904c 3 = .ok (.invokevirtual 86, 3) := by decide +kernel
theorem dJ7_copyOf_1904c_6 : decode cJ7_copyOf_1904c 6 = .ok (.invokestatic 300, 3) := by decide +kernel
theorem dJ7_copyOf_1904c_9 : decode cJ7_copyOf_1904c 9 = .ok (.areturn, 1) := by decide +kernel
theorem dJx4a65c_grow_92f84_0 : decode cJx4a65c_grow_92f84 0 = .ok (.aload_n 0, 1) := by decide +kernel
theorem dJx4a65c_grow_92f84_1 : decode cJx4a65c_grow_92f84 1 = .ok (.getfield 9, 3) := by decide +kernel
theorem dJx4a65c_grow_92f84_4 : decode cJx4a65c_grow_92f84 4 = .ok (.arraylength, 1) := by decide +kernel
theorem dJx4a65c_grow_92f84_5 : decode cJx4a65c_grow_92f84 5 = .ok (.istore_n 2, 1) := by decide +kernel
theorem dJx4a65c_grow_92f84_6 : decode cJx4a65c_grow_92f84 6 = .ok (.iload_n 2, 1) := by decide +kernel
theorem dJx4a65c_grow_92f84_7 : decode cJx4a65c_grow_92f84 7 = .ok (.ifCond .gt 13, 3) := by decide +kernel
theorem dJx4a65c_grow_92f84_10 : decode cJx4a65c_grow_92f84 10 = .ok (.aload_n 0, 1) := by decide +kernel
theorem dJx4a65c_grow_92f84_11 : decode cJx4a65c_grow_92f84 11 = .ok (.getfield 9, 3) := by decide +kernel
theorem dJx4a65c_grow_92f84_14 : decode cJx4a65c_grow_92f84 14 = .ok (.getstatic 39, 3) := by decide +kernel
theorem dJx4a65c_grow_92f84_17 : decode cJx4a65c_grow_92f84 17 = .ok (.if_acmp .eq 28, 3) := by decide +kernel
theorem dJx4a65c_grow_92f84_20 : decode cJx4a65c_grow_92f84 20 = .ok (.iload_n 2, 1) := by decide +kernel
theorem dJx4a65c_grow_92f84_21 : decode cJx4a65c_grow_92f84 21 = .ok (.iload_n 1, 1) := by decide +kernel
theorem dJx4a65c_grow_92f84_22 : decode cJx4a65c_grow_92f84 22 = .ok (.iload_n 2, 1) := by decide +kernel
theorem dJx4a65c_grow_92f84_23 : decode cJx4a65c_grow_92f84 23 = .ok (.isub, 1) := by decide +kernel
theorem dJx4a65c_grow_92f84_24 : decode cJx4a65c_grow_92f84 24 = .ok (.iload_n 2, 1) := by decide +kernel
theorem dJx4a65c_grow_92f84_25 : decode cJx4a65c_grow_92f84 25 = .ok (.iconst 1, 1) := by decide +kernel
theorem dJx4a65c_grow_92f84_26 : decode cJx4a65c_grow_92f84 26 = .ok (.ishr, 1) := by decide +kernel
theorem dJx4a65c_grow_92f84_27 : decode cJx4a65c_grow_92f84 27 = .ok (.invokestatic 73, 3) := by decide +kernel
theorem dJx4a65c_grow_92f84_30 : decode cJx4a65c_grow_92f84 30 = .ok (.istore_n 3, 1) := by decide +kernel
theorem dJx4a65c_grow_92f84_31 : decode cJx4a65c_grow_92f84 31 = .ok (.aload_n 0, 1) := by decide +kernel
theorem dJx4a65c_grow_92f84_32 : decode cJx4a65c_grow_92f84 32 = .ok (.aload_n 0, 1) := by decide +kernel
theorem dJx4a65c_grow_92f84_33 : decode cJx4a65c_grow_92f84 33 = .ok (.getfield 9, 3) := by decide +kernel
theorem dJx4a65c_grow_92f84_36 : decode cJx4a65c_grow_92f84 36 = .ok (.iload_n 3, 1) := by decide +kernel
theorem dJx4a65c_grow_92f84_37 : decode cJx4a65c_grow_92f84 37 = .ok (.invokestatic 66, 3) := by decide +kernel
theorem dJx4a65c_grow_92f84_40 : decode cJx4a65c_grow_92f84 40 = .ok (.dup_x1, 1) := by decide +kernel
theorem dJx4a65c_grow_92f84_41 : decode cJx4a65c_grow_92f84 41 = .ok (.putfield 9, 3) := by decide +kernel
theorem dJx4a65c_grow_92f84_44 : decode cJx4a65c_grow_92f84 44 = .ok (.areturn, 1) := by decide +kernel
theorem dJx4a65c_grow_92f84_45 : decode cJx4a65c_grow_92f84 45 = .ok (.aload_n 0, 1) := by decide +kernel
theorem dJx4a65c_grow_92f84_46 : decode cJx4a65c_grow_92f84 46 = .ok (.bipush 10, 2) := by decide +kernel
theorem dJx4a65c_grow_92f84_48 : decode cJx4a65c_grow_92f84 48 = .ok (.iload_n 1, 1) := by decide +kernel
theorem dJx4a65c_grow_92f84_49 : decode cJx4a65c_grow_92f84 49 = .ok (.invokestatic 79, 3) := by decide +kernel
theorem dJx4a65c_grow_92f84_52 : decode cJx4a65c_grow_92f84 52 = .ok (.anewarray 7, 3) := by decide +kernel
theorem dJx4a65c_grow_92f84_55 : decode cJx4a65c_grow_92f84 55 = .ok (.dup_x1, 1) := by decide +kernel
theorem dJx4a65c_grow_92f84_56 : decode cJx4a65c_grow_92f84 56 = .ok (.putfield 9, 3) := by decide +kernel
theorem dJx4a65c_grow_92f84_59 : decode cJx4a65c_grow_92f84 59 = .ok (.areturn, 1) := by decide +kernel
theorem dJx4a65c_grow_d5877_0 : decode cJx4a65c_grow_d5877 0 = .ok (.aload_n 0, 1) := by decide +kernel
theorem dJx4a65c_grow_d5877_1 : decode cJx4a65c_grow_d5877 1 = .ok (.aload_n 0, 1) := by decide +kernel
theorem dJx4a65c_grow_d5877_2 : decode cJx4a65c_grow_d5877 2 = .ok (.getfield 48, 3) := by decide +kernel
theorem dJx4a65c_grow_d5877_5 : decode cJx4a65c_grow_d5877 5 = .ok (.iconst 1, 1) := by decide +kernel
theorem dJx4a65c_grow_d5877_6 : decode cJx4a65c_grow_d5877 6 = .ok (.iadd, 1) := by decide +kernel
theorem dJx4a65c_grow_d5877_7 : decode cJx4a65c_grow_d5877 7 = .ok (.invokevirtual 69, 3) := by decide +kernel
theorem dJx4a65c_grow_d5877_10 : decode cJx4a65c_grow_d5877 10 = .ok (.areturn, 1) := by decide +kernel
theorem dJx4a65c_add_72be8_0 : decode cJx4a65c_add_72be8 0 = .ok (.iload_n 3, 1) := by decide +kernel
theorem dJx4a65c_add_72be8_1 : decode cJx4a65c_add_72be8 1 = .ok (.aload_n 2, 1) := by decide +kernel
theorem dJx4a65c_add_72be8_2 : decode cJx4a65c_add_72be8 2 = .ok (.arraylength, 1) := by decide +kernel
theorem dJx4a65c_add_72be8_3 : decode cJx4a65c_add_72be8 3 = .ok (.if_icmp .ne 8, 3) := by decide +kernel
theorem dJx4a65c_add_72be8_6 : decode cJx4a65c_add_72be8 6 = .ok (.aload_n 0, 1) := by decide +kernel
theorem dJx4a65c_add_72be8_7 : decode cJx4a65c_add_72be8 7 = .ok (.invokevirtual 129, 3) := by decide +kernel
theorem dJx4a65c_add_72be8_10 : decode cJx4a65c_add_72be8 10 = .ok (.astore_n 2, 1) := by decide +kernel
theorem dJx4a65c_add_72be8_11 : decode cJx4a65c_add_72be8 11 = .ok (.aload_n 2, 1) := by decide +kernel
theorem dJx4a65c_add_72be8_12 : decode cJx4a65c_add_72be8 12 = .ok (.iload_n 3, 1) := by decide +kernel
theorem dJx4a65c_add_72be8_13 : decode cJx4a65c_add_72be8 13 = .ok (.aload_n 1, 1) := by decide +kernel
theorem dJx4a65c_add_72be8_14 : decode cJx4a65c_add_72be8 14 = .ok (.aastore, 1) := by decide +kernel
theorem dJx4a65c_add_72be8_15 : decode cJx4a65c_add_72be8 15 = .ok (.aload_n 0, 1) := by decide +kernel
theorem dJx4a65c_add_72be8_16 : decode cJx4a65c_add_72be8 16 = .ok (.iload_n 3, 1) := by decide +kernel
theorem dJx4a65c_add_72be8_17 : decode cJx4a65c_add_72be8 17 = .ok (.iconst 1, 1) := by decide +kernel
theorem dJx4a65c_add_72be8_18 : decode cJx4a65c_add_72be8 18 = .ok (.iadd, 1) := by decide +kernel
theorem dJx4a65c_add_72be8_19 : decode cJx4a65c_add_72be8 19 = .ok (.putfield 48, 3) := by decide +kernel
theorem dJx4a65c_add_72be8_22 : decode cJx4a65c_add_72be8 22 = .ok (.return_, 1) := by decide +kernel
theorem dJx4a65c_add_9ea2d_0 : decode cJx4a65c_add_9ea2d 0 = .ok (.aload_n 0, 1) := by decide +kernel
theorem dJx4a65c_add_9ea2d_1 : decode cJx4a65c_add_9ea2d 1 = .ok (.dup, 1) := by decide +kernel
theorem dJx4a65c_add_9ea2d_2 : decode cJx4a65c_add_9ea2d 2 = .ok (.getfield 63, 3) := by decide +kernel
theorem dJx4a65c_add_9ea2d_5 : decode cJx4a65c_add_9ea2d 5 = .ok (.iconst 1, 1) := by decide +kernel
theorem dJx4a65c_add_9ea2d_6 : decode cJx4a65c_add_9ea2d 6 = .ok (.iadd, 1) := by decide +kernel
theorem dJx4a65c_add_9ea2d_7 : decode cJx4a65c_add_9ea2d 7 = .ok (.putfield 63, 3) := by decide +kernel
theorem dJx4a65c_add_9ea2d_10 : decode cJx4a65c_add_9ea2d 10 = .ok (.aload_n 0, 1) := by decide +kernel
theorem dJx4a65c_add_9ea2d_11 : decode cJx4a65c_add_9ea2d 11 = .ok (.aload_n 1, 1) := by decide +kernel
theorem dJx4a65c_add_9ea2d_12 : decode cJx4a65c_add_9ea2d 12 = .ok (.aload_n 0, 1) := by decide +kernel
theorem dJx4a65c_add_9ea2d_13 : decode cJx4a65c_add_9ea2d 13 = .ok (.getfield 9, 3) := by decide +kernel
theorem dJx4a65c_add_9ea2d_16 : decode cJx4a65c_add_9ea2d 16 = .ok (.aload_n 0, 1) := by decide +kernel
theorem dJx4a65c_add_9ea2d_17 : decode cJx4a65c_add_9ea2d 17 = .ok (.getfield 48, 3) := by decide +kernel
theorem dJx4a65c_add_9ea2d_20 : decode cJx4a65c_add_9ea2d 20 = .ok (.invokevirtual 131, 3) := by decide +kernel
theorem dJx4a65c_add_9ea2d_23 : decode cJx4a65c_add_9ea2d 23 = .ok (.iconst 1, 1) := by decide +kernel
theorem dJx4a65c_add_9ea2d_24 : decode cJx4a65c_add_9ea2d 24 = .ok (.ireturn, 1) := by decide +kernel
theorem dX8_addLabel_0 : decode cX8_addLabel 0 = .ok (.aload_n 0, 1) := by decide +kernel
theorem dX8_addLabel_1 : decode cX8_addLabel 1 = .ok (.getfield 39, 3) := by decide +kernel
theorem dX8_addLabel_4 : decode cX8_addLabel 4 = .ok (.aload_n 1, 1) := by decide +kernel
theorem dX8_addLabel_5 : decode cX8_addLabel 5 = .ok (.getfield 184, 3) := by decide +kernel
theorem dX8_addLabel_8 : decode cX8_addLabel 8 = .ok (.invokevirtual 187, 3) := by decide +kernel
theorem dX8_addLabel_11 : decode cX8_addLabel 11 = .ok (.sipush 255, 3) := by decide +kernel
theorem dX8_addLabel_14 : decode cX8_addLabel 14 = .ok (.iand, 1) := by decide +kernel
theorem dX8_addLabel_15 : decode cX8_addLabel 15 = .ok (.istore_n 2, 1) := by decide +kernel
theorem dX8_addLabel_16 : decode cX8_addLabel 16 = .ok (.aload_n 1, 1) := by decide +kernel
theorem dX8_addLabel_17 : decode cX8_addLabel 17 = .ok (.aload_n 0, 1) := by decide +kernel
theorem dX8_addLabel_18 : decode cX8_addLabel 18 = .ok (.getfield 21, 3) := by decide +kernel
theorem dX8_addLabel_21 : decode cX8_addLabel 21 = .ok (.iload_n 2, 1) := by decide +kernel
theorem dX8_addLabel_22 : decode cX8_addLabel 22 = .ok (.iaload, 1) := by decide +kernel
theorem dX8_addLabel_23 : decode cX8_addLabel 23 = .ok (.putfield 190, 3) := by decide +kernel
theorem dX8_addLabel_26 : decode cX8_addLabel 26 = .ok (.aload_n 0, 1) := by decide +kernel
theorem dX8_addLabel_27 : decode cX8_addLabel 27 = .ok (.getfield 21, 3) := by decide +kernel
theorem dX8_addLabel_30 : decode cX8_addLabel 30 = .ok (.iload_n 2, 1) := by decide +kernel
theorem dX8_addLabel_31 : decode cX8_addLabel 31 = .ok (.aload_n 0, 1) := by decide +kernel
theorem dX8_addLabel_32 : decode cX8_addLabel 32 = .ok (.getfield 18, 3) := by decide +kernel
theorem dX8_addLabel_35 : decode cX8_addLabel 35 = .ok (.invokevirtual 80, 3) := by decide +kernel
theorem dX8_addLabel_38 : decode cX8_addLabel 38 = .ok (.iastore, 1) := by decide +kernel
theorem dX8_addLabel_39 : decode cX8_addLabel 39 = .ok (.aload_n 0, 1) := by decide +kernel
theorem dX8_addLabel_40 : decode cX8_addLabel 40 = .ok (.getfield 18, 3) := by decide +kernel
theorem dX8_addLabel_43 : decode cX8_addLabel 43 = .ok (.aload_n 1, 1) := by decide +kernel
theorem dX8_addLabel_44 : decode cX8_addLabel 44 = .ok (.invokevirtual 135, 3) := by decide +kernel
theorem dX8_addLabel_47 : decode cX8_addLabel 47 = .ok (.pop, 1) := by decide +kernel
theorem dX8_addLabel_48 : decode cX8_addLabel 48 = .ok (.return_, 1) := by decide +kernel
theorem dX8_sortAt_0 : decode cX8_sortAt 0 = .ok (.aload_n 0, 1) := by decide +kernel
theorem dX8_sortAt_1 : decode cX8_sortAt 1 = .ok (.getfield 39, 3) := by decide +kernel
theorem dX8_sortAt_4 : decode cX8_sortAt 4 = .ok (.getfield 148, 3) := by decide +kernel
theorem dX8_sortAt_7 : decode cX8_sortAt 7 = .ok (.iload_n 1, 1) := by decide +kernel
theorem dX8_sortAt_8 : decode cX8_sortAt 8 = .ok (.baload, 1) := by decide +kernel
theorem dX8_sortAt_9 : decode cX8_sortAt 9 = .ok (.iconst 1, 1) := by decide +kernel
theorem dX8_sortAt_10 : decode cX8_sortAt 10 = .ok (.if_icmp .ne 5, 3) := by decide +kernel
theorem dX8_sortAt_13 : decode cX8_sortAt 13 = .ok (.iconst 1, 1) := by decide +kernel
theorem dX8_sortAt_14 : decode cX8_sortAt 14 = .ok (.ireturn, 1) := by decide +kernel
theorem dX8_sortAt_15 : decode cX8_sortAt 15 = .ok (.aload_n 0, 1) := by decide +kernel
theorem dX8_sortAt_16 : decode cX8_sortAt 16 = .ok (.getfield 39, 3) := by decide +kernel
theorem dX8_sortAt_19 : decode cX8_sortAt 19 = .ok (.iload_n 1, 1) := by decide +kernel
theorem dX8_sortAt_20 : decode cX8_sortAt 20 = .ok (.bipush 46, 2) := by decide +kernel
theorem dX8_sortAt_22 : decode cX8_sortAt 22 = .ok (.invokevirtual 117, 3) := by decide +kernel
theorem dX8_sortAt_25 : decode cX8_sortAt 25 = .ok (.ifCond .ne 5, 3) := by decide +kernel
theorem dX8_sortAt_28 : decode cX8_sortAt 28 = .ok (.iconst 0, 1) := by decide +kernel
theorem dX8_sortAt_29 : decode cX8_sortAt 29 = .ok (.ireturn, 1) := by decide +kernel
theorem dX8_sortAt_30 : decode cX8_sortAt 30 = .ok (.aload_n 0, 1) := by decide +kernel
theorem dX8_sortAt_31 : decode cX8_sortAt 31 = .ok (.getfield 39, 3) := by decide +kernel
theorem dX8_sortAt_34 : decode cX8_sortAt 34 = .ok (.iload_n 1, 1) := by decide +kernel
theorem dX8_sortAt_35 : decode cX8_sortAt 35 = .ok (.iconst 1, 1) := by decide +kernel
theorem dX8_sortAt_36 : decode cX8_sortAt 36 = .ok (.iadd, 1) := by decide +kernel
theorem dX8_sortAt_37 : decode cX8_sortAt 37 = .ok (.ldc 152, 2) := by decide +kernel
theorem dX8_sortAt_39 : decode cX8_sortAt 39 = .ok (.invokevirtual 153, 3) := by decide +kernel
theorem dX8_sortAt_42 : decode cX8_sortAt 42 = .ok (.ifCond .eq 7, 3) := by decide +kernel
theorem dX8_sortAt_45 : decode cX8_sortAt 45 = .ok (.iconst 3, 1) := by decide +kernel
theorem dX8_sortAt_46 : decode cX8_sortAt 46 = .ok (.goto 4, 3) := by decide +kernel
theorem dX8_sortAt_49 : decode cX8_sortAt 49 = .ok (.iconst 2, 1) := by decide +kernel
theorem dX8_sortAt_50 : decode cX8_sortAt 50 = .ok (.ireturn, 1) := by decide +kernel
