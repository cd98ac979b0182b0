theorem dX13_poke_0 : decode cX13_poke 0 = .ok (.aload_n 0, 1) := by decide +kernel
theorem dX13_poke_1 : decode cX13_poke 1 = .ok (.aload_n 0, 1) := by decide +kernel
theorem dX13_poke_2 : decode cX13_poke 2 = .ok (.getfield 217, 3) := by decide +kernel
theorem dX13_poke_5 : decode cX13_poke 5 = .ok (.ifCond .ne 7, 3) := by decide +kernel
theorem dX13_poke_8 : decode cX13_poke 8 = .ok (.iconst 1, 1) := by decide +kernel
theorem dX13_poke_9 : decode cX13_poke 9 = .ok (.goto 36, 3) := by decide +kernel
theorem dX13_poke_12 : decode cX13_poke 12 = .ok (.iload_n 1, 1) := by decide +kernel
theorem dX13_poke_13 : decode cX13_poke 13 = .ok (.ifCond .lt 27, 3) := by decide +kernel
theorem dX13_poke_16 : decode cX13_poke 16 = .ok (.iload_n 1, 1) := by decide +kernel
theorem dX13_poke_17 : decode cX13_poke 17 = .ok (.sipush 4096, 3) := by decide +kernel
theorem dX13_poke_20 : decode cX13_poke 20 = .ok (.if_icmp .ge 20, 3) := by decide +kernel
theorem dX13_poke_23 : decode cX13_poke 23 = .ok (.lload_n 2, 1) := by decide +kernel
theorem dX13_poke_24 : decode cX13_poke 24 = .ok (.lconst 0, 1) := by decide +kernel
theorem dX13_poke_25 : decode cX13_poke 25 = .ok (.lcmp, 1) := by decide +kernel
theorem dX13_poke_26 : decode cX13_poke 26 = .ok (.ifCond .lt 14, 3) := by decide +kernel
theorem dX13_poke_29 : decode cX13_poke 29 = .ok (.lload_n 2, 1) := by decide +kernel
theorem dX13_poke_30 : decode cX13_poke 30 = .ok (.lconst 1, 1) := by decide +kernel
theorem dX13_poke_31 : decode cX13_poke 31 = .ok (.aload_n 0, 1) := by decide +kernel
theorem dX13_poke_32 : decode cX13_poke 32 = .ok (.getfield 217, 3) := by decide +kernel
theorem dX13_poke_35 : decode cX13_poke 35 = .ok (.lshl, 1) := by decide +kernel
theorem dX13_poke_36 : decode cX13_poke 36 = .ok (.lcmp, 1) := by decide +kernel
theorem dX13_poke_37 : decode cX13_poke 37 = .ok (.ifCond .lt 7, 3) := by decide +kernel
theorem dX13_poke_40 : decode cX13_poke 40 = .ok (.iconst 2, 1) := by decide +kernel
theorem dX13_poke_41 : decode cX13_poke 41 = .ok (.goto 4, 3) := by decide +kernel
theorem dX13_poke_44 : decode cX13_poke 44 = .ok (.iconst 0, 1) := by decide +kernel
theorem dX13_poke_45 : decode cX13_poke 45 = .ok (.putfield 138, 3) := by decide +kernel
theorem dX13_poke_48 : decode cX13_poke 48 = .ok (.aload_n 0, 1) := by decide +kernel
theorem dX13_poke_49 : decode cX13_poke 49 = .ok (.getfield 138, 3) := by decide +kernel
theorem dX13_poke_52 : decode cX13_poke 52 = .ok (.ifCond .le 5, 3) := by decide +kernel
theorem dX13_poke_55 : decode cX13_poke 55 = .ok (.iconst 0, 1) := by decide +kernel
theorem dX13_poke_56 : decode cX13_poke 56 = .ok (.ireturn, 1) := by decide +kernel
theorem dX13_poke_57 : decode cX13_poke 57 = .ok (.aload_n 0, 1) := by decide +kernel
theorem dX13_poke_58 : decode cX13_poke 58 = .ok (.getfield 101, 3) := by decide +kernel
theorem dX13_poke_61 : decode cX13_poke 61 = .ok (.iload_n 1, 1) := by decide +kernel
theorem dX13_poke_62 : decode cX13_poke 62 = .ok (.baload, 1) := by decide +kernel
theorem dX13_poke_63 : decode cX13_poke 63 = .ok (.ifCond .ne 13, 3) := by decide +kernel
theorem dX13_poke_66 : decode cX13_poke 66 = .ok (.aload_n 0, 1) := by decide +kernel
theorem dX13_poke_67 : decode cX13_poke 67 = .ok (.dup, 1) := by decide +kernel
theorem dX13_poke_68 : decode cX13_poke 68 = .ok (.getfield 283, 3) := by decide +kernel
theorem dX13_poke_71 : decode cX13_poke 71 = .ok (.iconst 1, 1) := by decide +kernel
theorem dX13_poke_72 : decode cX13_poke 72 = .ok (.iadd, 1) := by decide +kernel
theorem dX13_poke_73 : decode cX13_poke 73 = .ok (.putfield 283, 3) := by decide +kernel
theorem dX13_poke_76 : decode cX13_poke 76 = .ok (.aload_n 0, 1) := by decide +kernel
theorem dX13_poke_77 : decode cX13_poke 77 = .ok (.getfield 101, 3) := by decide +kernel
theorem dX13_poke_80 : decode cX13_poke 80 = .ok (.iload_n 1, 1) := by decide +kernel
theorem dX13_poke_81 : decode cX13_poke 81 = .ok (.iconst 1, 1) := by decide +kernel
theorem dX13_poke_82 : decode cX13_poke 82 = .ok (.bastore, 1) := by decide +kernel
theorem dX13_poke_83 : decode cX13_poke 83 = .ok (.aload_n 0, 1) := by decide +kernel
theorem dX13_poke_84 : decode cX13_poke 84 = .ok (.getfield 98, 3) := by decide +kernel
theorem dX13_poke_87 : decode cX13_poke 87 = .ok (.iload_n 1, 1) := by decide +kernel
theorem dX13_poke_88 : decode cX13_poke 88 = .ok (.lload_n 2, 1) := by decide +kernel
theorem dX13_poke_89 : decode cX13_poke 89 = .ok (.lastore, 1) := by decide +kernel
theorem dX13_poke_90 : decode cX13_poke 90 = .ok (.aload_n 0, 1) := by decide +kernel
theorem dX13_poke_91 : decode cX13_poke 91 = .ok (.getfield 283, 3) := by decide +kernel
theorem dX13_poke_94 : decode cX13_poke 94 = .ok (.ireturn, 1) := by decide +kernel
theorem dX13_list_0 : decode cX13_list 0 = .ok (.aload_n 0, 1) := by decide +kernel
theorem dX13_list_1 : decode cX13_list 1 = .ok (.iload_n 1, 1) := by decide +kernel
theorem dX13_list_2 : decode cX13_list 2 = .ok (.invokevirtual 387, 3) := by decide +kernel
theorem dX13_list_5 : decode cX13_list 5 = .ok (.ifCond .ne 5, 3) := by decide +kernel
theorem dX13_list_8 : decode cX13_list 8 = .ok (.iconst 0, 1) := by decide +kernel
theorem dX13_list_9 : decode cX13_list 9 = .ok (.ireturn, 1) := by decide +kernel
theorem dX13_list_10 : decode cX13_list 10 = .ok (.aload_n 0, 1) := by decide +kernel
theorem dX13_list_11 : decode cX13_list 11 = .ok (.iload_n 1, 1) := by decide +kernel
theorem dX13_list_12 : decode cX13_list 12 = .ok (.invokevirtual 390, 3) := by decide +kernel
theorem dX13_list_15 : decode cX13_list 15 = .ok (.aload_n 0, 1) := by decide +kernel
theorem dX13_list_16 : decode cX13_list 16 = .ok (.getfield 23, 3) := by decide +kernel
theorem dX13_list_19 : decode cX13_list 19 = .ok (.ifCond .ge 7, 3) := by decide +kernel
theorem dX13_list_22 : decode cX13_list 22 = .ok (.iconst 1, 1) := by decide +kernel
theorem dX13_list_23 : decode cX13_list 23 = .ok (.goto 12, 3) := by decide +kernel
theorem dX13_list_26 : decode cX13_list 26 = .ok (.aload_n 0, 1) := by decide +kernel
theorem dX13_list_27 : decode cX13_list 27 = .ok (.getfield 77, 3) := by decide +kernel
theorem dX13_list_30 : decode cX13_list 30 = .ok (.aload_n 0, 1) := by decide +kernel
theorem dX13_list_31 : decode cX13_list 31 = .ok (.getfield 23, 3) := by decide +kernel
theorem dX13_list_34 : decode cX13_list 34 = .ok (.iaload, 1) := by decide +kernel
theorem dX13_list_35 : decode cX13_list 35 = .ok (.ireturn, 1) := by decide +kernel
theorem dX13_which_0 : decode cX13_which 0 = .ok (.aload_n 0, 1) := by decide +kernel
theorem dX13_which_1 : decode cX13_which 1 = .ok (.iconst 0, 1) := by decide +kernel
theorem dX13_which_2 : decode cX13_which 2 = .ok (.putfield 138, 3) := by decide +kernel
theorem dX13_which_5 : decode cX13_which 5 = .ok (.aload_n 0, 1) := by decide +kernel
theorem dX13_which_6 : decode cX13_which 6 = .ok (.getfield 23, 3) := by decide +kernel
theorem dX13_which_9 : decode cX13_which 9 = .ok (.ireturn, 1) := by decide +kernel
theorem dX13_listing_0 : decode cX13_listing 0 = .ok (.aload_n 0, 1) := by decide +kernel
theorem dX13_listing_1 : decode cX13_listing 1 = .ok (.iload_n 1, 1) := by decide +kernel
theorem dX13_listing_2 : decode cX13_listing 2 = .ok (.ifCond .lt 10, 3) := by decide +kernel
theorem dX13_listing_5 : decode cX13_listing 5 = .ok (.iload_n 1, 1) := by decide +kernel
theorem dX13_listing_6 : decode cX13_listing 6 = .ok (.sipush 300, 3) := by decide +kernel
theorem dX13_listing_9 : decode cX13_listing 9 = .ok (.if_icmp .le 7, 3) := by decide +kernel
theorem dX13_listing_12 : decode cX13_listing 12 = .ok (.iconst 1, 1) := by decide +kernel
theorem dX13_listing_13 : decode cX13_listing 13 = .ok (.goto 4, 3) := by decide +kernel
theorem dX13_listing_16 : decode cX13_listing 16 = .ok (.iconst 0, 1) := by decide +kernel
theorem dX13_listing_17 : decode cX13_listing 17 = .ok (.putfield 138, 3) := by decide +kernel
theorem dX13_listing_20 : decode cX13_listing 20 = .ok (.aload_n 0, 1) := by decide +kernel
theorem dX13_listing_21 : decode cX13_listing 21 = .ok (.getfield 138, 3) := by decide +kernel
theorem dX13_listing_24 : decode cX13_listing 24 = .ok (.ifCond .le 5, 3) := by decide +kernel
theorem dX13_listing_27 : decode cX13_listing 27 = .ok (.lconst 0, 1) := by decide +kernel
theorem dX13_listing_28 : decode cX13_listing 28 = .ok (.lreturn, 1) := by decide +kernel
theorem dX13_listing_29 : decode cX13_listing 29 = .ok (.lconst 0, 1) := by decide +kernel
theorem dX13_listing_30 : decode cX13_listing 30 = .ok (.lstore_n 2, 1) := by decide +kernel
theorem dX13_listing_31 : decode cX13_listing 31 = .ok (.iload_n 1, 1) := by decide +kernel
theorem dX13_listing_32 : decode cX13_listing 32 = .ok (.istore 4, 2) := by decide +kernel
theorem dX13_listing_34 : decode cX13_listing 34 = .ok (.iload 4, 2) := by decide +kernel
theorem dX13_listing_36 : decode cX13_listing 36 = .ok (.iload_n 1, 1) := by decide +kernel
theorem dX13_listing_37 : decode cX13_listing 37 = .ok (.bipush 8, 2) := by decide +kernel
theorem dX13_listing_39 : decode cX13_listing 39 = .ok (.iadd, 1) := by decide +kernel
theorem dX13_listing_40 : decode cX13_listing 40 = .ok (.if_icmp .ge 40, 3) := by decide +kernel
theorem dX13_listing_43 : decode cX13_listing 43 = .ok (.lload_n 2, 1) := by decide +kernel
theorem dX13_listing_44 : decode cX13_listing 44 = .ok (.bipush 8, 2) := by decide +kernel
theorem dX13_listing_46 : decode cX13_listing 46 = .ok (.lshl, 1) := by decide +kernel
theorem dX13_listing_47 : decode cX13_listing 47 = .ok (.iload 4, 2) := by decide +kernel
theorem dX13_listing_49 : decode cX13_listing 49 = .ok (.aload_n 0, 1) := by decide +kernel
theorem dX13_listing_50 : decode cX13_listing 50 = .ok (.getfield 339, 3) := by decide +kernel
theorem dX13_listing_53 : decode cX13_listing 53 = .ok (.if_icmp .ge 17, 3) := by decide +kernel
theorem dX13_listing_56 : decode cX13_listing 56 = .ok (.aload_n 0, 1) := by decide +kernel
theorem dX13_listing_57 : decode cX13_listing 57 = .ok (.getfield 16, 3) := by decide +kernel
theorem dX13_listing_60 : decode cX13_listing 60 = .ok (.iload 4, 2) := by decide +kernel
theorem dX13_listing_62 : decode cX13_listing 62 = .ok (.baload, 1) := by decide +kernel
theorem dX13_listing_63 : decode cX13_listing 63 = .ok (.sipush 255, 3) := by decide +kernel
theorem dX13_listing_66 : decode cX13_listing 66 = .ok (.iand, 1) := by decide +kernel
theorem dX13_listing_67 : decode cX13_listing 67 = .ok (.goto 4, 3) := by decide +kernel
theorem dX13_listing_70 : decode cX13_listing 70 = .ok (.iconst 0, 1) := by decide +kernel
theorem dX13_listing_71 : decode cX13_listing 71 = .ok (.i2l, 1) := by decide +kernel
theorem dX13_listing_72 : decode cX13_listing 72 = .ok (.lor, 1) := by decide +kernel
theorem dX13_listing_73 : decode cX13_listing 73 = .ok (.lstore_n 2, 1) := by decide +kernel
theorem dX13_listing_74 : decode cX13_listing 74 = .ok (.iinc 4 1, 3) := by decide +kernel
theorem dX13_listing_77 : decode cX13_listing 77 = .ok (.goto (-43), 3) := by decide +kernel
theorem dX13_listing_80 : decode cX13_listing 80 = .ok (.lload_n 2, 1) := by decide +kernel
theorem dX13_listing_81 : decode cX13_listing 81 = .ok (.lreturn, 1) := by decide +kernel
theorem dX13_quote_0 : decode cX13_quote 0 = .ok (.aload_n 0, 1) := by decide +kernel
theorem dX13_quote_1 : decode cX13_quote 1 = .ok (.aload_n 0, 1) := by decide +kernel
theorem dX13_quote_2 : decode cX13_quote 2 = .ok (.getfield 364, 3) := by decide +kernel
theorem dX13_quote_5 : decode cX13_quote 5 = .ok (.aload_n 0, 1) := by decide +kernel
theorem dX13_quote_6 : decode cX13_quote 6 = .ok (.getfield 339, 3) := by decide +kernel
theorem dX13_quote_9 : decode cX13_quote 9 = .ok (.iadd, 1) := by decide +kernel
theorem dX13_quote_10 : decode cX13_quote 10 = .ok (.iconst 1, 1) := by decide +kernel
theorem dX13_quote_11 : decode cX13_quote 11 = .ok (.iadd, 1) := by decide +kernel
theorem dX13_quote_12 : decode cX13_quote 12 = .ok (.sipush 6000, 3) := by decide +kernel
theorem dX13_quote_15 : decode cX13_quote 15 = .ok (.if_icmp .le 7, 3) := by decide +kernel
theorem dX13_quote_18 : decode cX13_quote 18 = .ok (.iconst 1, 1) := by decide +kernel
theorem dX13_quote_19 : decode cX13_quote 19 = .ok (.goto 4, 3) := by decide +kernel
theorem dX13_quote_22 : decode cX13_quote 22 = .ok (.iconst 0, 1) := by decide +kernel
theorem dX13_quote_23 : decode cX13_quote 23 = .ok (.putfield 138, 3) := by decide +kernel
theorem dX13_quote_26 : decode cX13_quote 26 = .ok (.aload_n 0, 1) := by decide +kernel
theorem dX13_quote_27 : decode cX13_quote 27 = .ok (.getfield 138, 3) := by decide +kernel
theorem dX13_quote_30 : decode cX13_quote 30 = .ok (.ifCond .le 5, 3) := by decide +kernel
theorem dX13_quote_33 : decode cX13_quote 33 = .ok (.iconst 0, 1) := by decide +kernel
theorem dX13_quote_34 : decode cX13_quote 34 = .ok (.ireturn, 1) := by decide +kernel
theorem dX13_quote_35 : decode cX13_quote 35 = .ok (.aload_n 0, 1) := by decide +kernel
theorem dX13_quote_36 : decode cX13_quote 36 = .ok (.getfield 16, 3) := by decide +kernel
theorem dX13_quote_39 : decode cX13_quote 39 = .ok (.iconst 0, 1) := by decide +kernel
theorem dX13_quote_40 : decode cX13_quote 40 = .ok (.aload_n 0, 1) := by decide +kernel
theorem dX13_quote_41 : decode cX13_quote 41 = .ok (.getfield 9, 3) := by decide +kernel
theorem dX13_quote_44 : decode cX13_quote 44 = .ok (.aload_n 0, 1) := by decide +kernel
theorem dX13_quote_45 : decode cX13_quote 45 = .ok (.getfield 364, 3) := by decide +kernel
theorem dX13_quote_48 : decode cX13_quote 48 = .ok (.aload_n 0, 1) := by decide +kernel
theorem dX13_quote_49 : decode cX13_quote 49 = .ok (.getfield 339, 3) := by decide +kernel
theorem dX13_quote_52 : decode cX13_quote 52 = .ok (.invokestatic 200, 3) := by decide +kernel
theorem dX13_quote_55 : decode cX13_quote 55 = .ok (.aload_n 0, 1) := by decide +kernel
theorem dX13_quote_56 : decode cX13_quote 56 = .ok (.dup, 1) := by decide +kernel
theorem dX13_quote_57 : decode cX13_quote 57 = .ok (.getfield 364, 3) := by decide +kernel
theorem dX13_quote_60 : decode cX13_quote 60 = .ok (.aload_n 0, 1) := by decide +kernel
theorem dX13_quote_61 : decode cX13_quote 61 = .ok (.getfield 339, 3) := by decide +kernel
theorem dX13_quote_64 : decode cX13_quote 64 = .ok (.iadd, 1) := by decide +kernel
theorem dX13_quote_65 : decode cX13_quote 65 = .ok (.putfield 364, 3) := by decide +kernel
theorem dX13_quote_68 : decode cX13_quote 68 = .ok (.aload_n 0, 1) := by decide +kernel
theorem dX13_quote_69 : decode cX13_quote 69 = .ok (.getfield 9, 3) := by decide +kernel
theorem dX13_quote_72 : decode cX13_quote 72 = .ok (.aload_n 0, 1) := by decide +kernel
theorem dX13_quote_73 : decode cX13_quote 73 = .ok (.getfield 364, 3) := by decide +kernel
theorem dX13_quote_76 : decode cX13_quote 76 = .ok (.bipush 10, 2) := by decide +kernel
theorem dX13_quote_78 : decode cX13_quote 78 = .ok (.bastore, 1) := by decide +kernel
theorem dX13_quote_79 : decode cX13_quote 79 = .ok (.aload_n 0, 1) := by decide +kernel
theorem dX13_quote_80 : decode cX13_quote 80 = .ok (.dup, 1) := by decide +kernel
theorem dX13_quote_81 : decode cX13_quote 81 = .ok (.getfield 364, 3) := by decide +kernel
theorem dX13_quote_84 : decode cX13_quote 84 = .ok (.iconst 1, 1) := by decide +kernel
theorem dX13_quote_85 : decode cX13_quote 85 = .ok (.iadd, 1) := by decide +kernel
theorem dX13_quote_86 : decode cX13_quote 86 = .ok (.putfield 364, 3) := by decide +kernel
theorem dX13_quote_89 : decode cX13_quote 89 = .ok (.aload_n 0, 1) := by decide +kernel
theorem dX13_quote_90 : decode cX13_quote 90 = .ok (.getfield 364, 3) := by decide +kernel
theorem dX13_quote_93 : decode cX13_quote 93 = .ok (.ireturn, 1) := by decide +kernel
theorem dX13_digits_0 : decode cX13_digits 0 = .ok (.lconst 0, 1) := by decide +kernel
theorem dX13_digits_1 : decode cX13_digits 1 = .ok (.lstore 4, 2) := by decide +kernel
theorem dX13_digits_3 : decode cX13_digits 3 = .ok (.iconst 0, 1) := by decide +kernel
theorem dX13_digits_4 : decode cX13_digits 4 = .ok (.istore 6, 2) := by decide +kernel
theorem dX13_digits_6 : decode cX13_digits 6 = .ok (.iload 6, 2) := by decide +kernel
theorem dX13_digits_8 : decode cX13_digits 8 = .ok (.aload_n 0, 1) := by decide +kernel
theorem dX13_digits_9 : decode cX13_digits 9 = .ok (.getfield 217, 3) := by decide +kernel
theorem dX13_digits_12 : decode cX13_digits 12 = .ok (.if_icmp .ge 62, 3) := by decide +kernel
theorem dX13_digits_15 : decode cX13_digits 15 = .ok (.aload_n 0, 1) := by decide +kernel
theorem dX13_digits_16 : decode cX13_digits 16 = .ok (.getfield 92, 3) := by decide +kernel
theorem dX13_digits_19 : decode cX13_digits 19 = .ok (.sipush 160, 3) := by decide +kernel
theorem dX13_digits_22 : decode cX13_digits 22 = .ok (.iload_n 1, 1) := by decide +kernel
theorem dX13_digits_23 : decode cX13_digits 23 = .ok (.imul, 1) := by decide +kernel
theorem dX13_digits_24 : decode cX13_digits 24 = .ok (.iload_n 2, 1) := by decide +kernel
theorem dX13_digits_25 : decode cX13_digits 25 = .ok (.aload_n 0, 1) := by decide +kernel
theorem dX13_digits_26 : decode cX13_digits 26 = .ok (.getfield 217, 3) := by decide +kernel
theorem dX13_digits_29 : decode cX13_digits 29 = .ok (.imul, 1) := by decide +kernel
theorem dX13_digits_30 : decode cX13_digits 30 = .ok (.iadd, 1) := by decide +kernel
theorem dX13_digits_31 : decode cX13_digits 31 = .ok (.iload 6, 2) := by decide +kernel
theorem dX13_digits_33 : decode cX13_digits 33 = .ok (.iadd, 1) := by decide +kernel
theorem dX13_digits_34 : decode cX13_digits 34 = .ok (.iaload, 1) := by decide +kernel
theorem dX13_digits_35 : decode cX13_digits 35 = .ok (.istore 7, 2) := by decide +kernel
theorem dX13_digits_37 : decode cX13_digits 37 = .ok (.ldc2_w 337, 3) := by decide +kernel
theorem dX13_digits_40 : decode cX13_digits 40 = .ok (.lload 4, 2) := by decide +kernel
theorem dX13_digits_42 : decode cX13_digits 42 = .ok (.lmul, 1) := by decide +kernel
theorem dX13_digits_43 : decode cX13_digits 43 = .ok (.iload 7, 2) := by decide +kernel
theorem dX13_digits_45 : decode cX13_digits 45 = .ok (.ifCond .ge 18, 3) := by decide +kernel
theorem dX13_digits_48 : decode cX13_digits 48 = .ok (.iload_n 3, 1) := by decide +kernel
theorem dX13_digits_49 : decode cX13_digits 49 = .ok (.ifCond .eq 10, 3) := by decide +kernel
theorem dX13_digits_52 : decode cX13_digits 52 = .ok (.iload 7, 2) := by decide +kernel
theorem dX13_digits_54 : decode cX13_digits 54 = .ok (.bipush (-2), 2) := by decide +kernel
theorem dX13_digits_56 : decode cX13_digits 56 = .ok (.if_icmp .ne 7, 3) := by decide +kernel
theorem dX13_digits_59 : decode cX13_digits 59 = .ok (.iconst 1, 1) := by decide +kernel
theorem dX13_digits_60 : decode cX13_digits 60 = .ok (.goto 4, 3) := by decide +kernel
theorem dX13_digits_63 : decode cX13_digits 63 = .ok (.iconst 0, 1) := by decide +kernel
theorem dX13_digits_64 : decode cX13_digits 64 = .ok (.i2l, 1) := by decide +kernel
theorem dX13_digits_65 : decode cX13_digits 65 = .ok (.ladd, 1) := by decide +kernel
theorem dX13_digits_66 : decode cX13_digits 66 = .ok (.lstore 4, 2) := by decide +kernel
theorem dX13_digits_68 : decode cX13_digits 68 = .ok (.iinc 6 1, 3) := by decide +kernel
theorem dX13_digits_71 : decode cX13_digits 71 = .ok (.goto (-65), 3) := by decide +kernel
theorem dX13_digits_74 : decode cX13_digits 74 = .ok (.lload 4, 2) := by decide +kernel
theorem dX13_digits_76 : decode cX13_digits 76 = .ok (.lreturn, 1) := by decide +kernel
theorem dX13_told_0 : decode cX13_told 0 = .ok (.aload_n 0, 1) := by decide +kernel
theorem dX13_told_1 : decode cX13_told 1 = .ok (.iload_n 1, 1) := by decide +kernel
theorem dX13_told_2 : decode cX13_told 2 = .ok (.ifCond .lt 11, 3) := by decide +kernel
theorem dX13_told_5 : decode cX13_told 5 = .ok (.iload_n 1, 1) := by decide +kernel
theorem dX13_told_6 : decode cX13_told 6 = .ok (.aload_n 0, 1) := by decide +kernel
theorem dX13_told_7 : decode cX13_told 7 = .ok (.getfield 223, 3) := by decide +kernel
theorem dX13_told_10 : decode cX13_told 10 = .ok (.if_icmp .lt 7, 3) := by decide +kernel
theorem dX13_told_13 : decode cX13_told 13 = .ok (.iconst 1, 1) := by decide +kernel
theorem dX13_told_14 : decode cX13_told 14 = .ok (.goto 4, 3) := by decide +kernel
theorem dX13_told_17 : decode cX13_told 17 = .ok (.iconst 0, 1) := by decide +kernel
theorem dX13_told_18 : decode cX13_told 18 = .ok (.putfield 138, 3) := by decide +kernel
theorem dX13_told_21 : decode cX13_told 21 = .ok (.aload_n 0, 1) := by decide +kernel
theorem dX13_told_22 : decode cX13_told 22 = .ok (.getfield 138, 3) := by decide +kernel
theorem dX13_told_25 : decode cX13_told 25 = .ok (.ifCond .le 5, 3) := by decide +kernel
theorem dX13_told_28 : decode cX13_told 28 = .ok (.lconst 0, 1) := by decide +kernel
theorem dX13_told_29 : decode cX13_told 29 = .ok (.lreturn, 1) := by decide +kernel
theorem dX13_told_30 : decode cX13_told 30 = .ok (.iload_n 2, 1) := by decide +kernel
theorem dX13_told_31 : decode cX13_told 31 = .ok (.tableswitch 61 0 3 #[29, 37, 45, 53], 29) := by decide +kernel
theorem dX13_told_60 : decode cX13_told 60 = .ok (.aload_n 0, 1) := by decide +kernel
theorem dX13_told_61 : decode cX13_told 61 = .ok (.getfield 77, 3) := by decide +kernel
theorem dX13_told_64 : decode cX13_told 64 = .ok (.iload_n 1, 1) := by decide +kernel
theorem dX13_told_65 : decode cX13_told 65 = .ok (.iaload, 1) := by decide +kernel
theorem dX13_told_66 : decode cX13_told 66 = .ok (.i2l, 1) := by decide +kernel
theorem dX13_told_67 : decode cX13_told 67 = .ok (.lreturn, 1) := by decide +kernel
theorem dX13_told_68 : decode cX13_told 68 = .ok (.aload_n 0, 1) := by decide +kernel
theorem dX13_told_69 : decode cX13_told 69 = .ok (.getfield 80, 3) := by decide +kernel
theorem dX13_told_72 : decode cX13_told 72 = .ok (.iload_n 1, 1) := by decide +kernel
theorem dX13_told_73 : decode cX13_told 73 = .ok (.iaload, 1) := by decide +kernel
theorem dX13_told_74 : decode cX13_told 74 = .ok (.i2l, 1) := by decide +kernel
theorem dX13_told_75 : decode cX13_told 75 = .ok (.lreturn, 1) := by decide +kernel
theorem dX13_told_76 : decode cX13_told 76 = .ok (.aload_n 0, 1) := by decide +kernel
theorem dX13_told_77 : decode cX13_told 77 = .ok (.getfield 71, 3) := by decide +kernel
theorem dX13_told_80 : decode cX13_told 80 = .ok (.iload_n 1, 1) := by decide +kernel
theorem dX13_told_81 : decode cX13_told 81 = .ok (.iaload, 1) := by decide +kernel
theorem dX13_told_82 : decode cX13_told 82 = .ok (.i2l, 1) := by decide +kernel
theorem dX13_told_83 : decode cX13_told 83 = .ok (.lreturn, 1) := by decide +kernel
theorem dX13_told_84 : decode cX13_told 84 = .ok (.aload_n 0, 1) := by decide +kernel
theorem dX13_told_85 : decode cX13_told 85 = .ok (.getfield 74, 3) := by decide +kernel
theorem dX13_told_88 : decode cX13_told 88 = .ok (.iload_n 1, 1) := by decide +kernel
theorem dX13_told_89 : decode cX13_told 89 = .ok (.iaload, 1) := by decide +kernel
theorem dX13_told_90 : decode cX13_told 90 = .ok (.i2l, 1) := by decide +kernel
theorem dX13_told_91 : decode cX13_told 91 = .ok (.lreturn, 1) := by decide +kernel
theorem dX13_told_92 : decode cX13_told 92 = .ok (.iload_n 2, 1) := by decide +kernel
theorem dX13_told_93 : decode cX13_told 93 = .ok (.bipush 10, 2) := by decide +kernel
theorem dX13_told_95 : decode cX13_told 95 = .ok (.if_icmp .lt 27, 3) := by decide +kernel
theorem dX13_told_98 : decode cX13_told 98 = .ok (.iload_n 2, 1) := by decide +kernel
theorem dX13_told_99 : decode cX13_told 99 = .ok (.bipush 10, 2) := by decide +kernel
theorem dX13_told_101 : decode cX13_told 101 = .ok (.aload_n 0, 1) := by decide +kernel
theorem dX13_told_102 : decode cX13_told 102 = .ok (.getfield 77, 3) := by decide +kernel
theorem dX13_told_105 : decode cX13_told 105 = .ok (.iload_n 1, 1) := by decide +kernel
theorem dX13_told_106 : decode cX13_told 106 = .ok (.iaload, 1) := by decide +kernel
theorem dX13_told_107 : decode cX13_told 107 = .ok (.iadd, 1) := by decide +kernel
theorem dX13_told_108 : decode cX13_told 108 = .ok (.if_icmp .ge 14, 3) := by decide +kernel
theorem dX13_told_111 : decode cX13_told 111 = .ok (.aload_n 0, 1) := by decide +kernel
theorem dX13_told_112 : decode cX13_told 112 = .ok (.iload_n 1, 1) := by decide +kernel
theorem dX13_told_113 : decode cX13_told 113 = .ok (.iload_n 2, 1) := by decide +kernel
theorem dX13_told_114 : decode cX13_told 114 = .ok (.bipush 10, 2) := by decide +kernel
theorem dX13_told_116 : decode cX13_told 116 = .ok (.isub, 1) := by decide +kernel
theorem dX13_told_117 : decode cX13_told 117 = .ok (.iconst 0, 1) := by decide +kernel
theorem dX13_told_118 : decode cX13_told 118 = .ok (.invokevirtual 393, 3) := by decide +kernel
theorem dX13_told_121 : decode cX13_told 121 = .ok (.lreturn, 1) := by decide +kernel
theorem dX13_told_122 : decode cX13_told 122 = .ok (.iload_n 2, 1) := by decide +kernel
theorem dX13_told_123 : decode cX13_told 123 = .ok (.bipush 20, 2) := by decide +kernel
theorem dX13_told_125 : decode cX13_told 125 = .ok (.if_icmp .lt 27, 3) := by decide +kernel
theorem dX13_told_128 : decode cX13_told 128 = .ok (.iload_n 2, 1) := by decide +kernel
theorem dX13_told_129 : decode cX13_told 129 = .ok (.bipush 20, 2) := by decide +kernel
theorem dX13_told_131 : decode cX13_told 131 = .ok (.aload_n 0, 1) := by decide +kernel
theorem dX13_told_132 : decode cX13_told 132 = .ok (.getfield 77, 3) := by decide +kernel
theorem dX13_told_135 : decode cX13_told 135 = .ok (.iload_n 1, 1) := by decide +kernel
theorem dX13_told_136 : decode cX13_told 136 = .ok (.iaload, 1) := by decide +kernel
theorem dX13_told_137 : decode cX13_told 137 = .ok (.iadd, 1) := by decide +kernel
theorem dX13_told_138 : decode cX13_told 138 = .ok (.if_icmp .ge 14, 3) := by decide +kernel
theorem dX13_told_141 : decode cX13_told 141 = .ok (.aload_n 0, 1) := by decide +kernel
theorem dX13_told_142 : decode cX13_told 142 = .ok (.iload_n 1, 1) := by decide +kernel
theorem dX13_told_143 : decode cX13_told 143 = .ok (.iload_n 2, 1) := by decide +kernel
theorem dX13_told_144 : decode cX13_told 144 = .ok (.bipush 20, 2) := by decide +kernel
theorem dX13_told_146 : decode cX13_told 146 = .ok (.isub, 1) := by decide +kernel
theorem dX13_told_147 : decode cX13_told 147 = .ok (.iconst 1, 1) := by decide +kernel
theorem dX13_told_148 : decode cX13_told 148 = .ok (.invokevirtual 393, 3) := by decide +kernel
theorem dX13_told_151 : decode cX13_told 151 = .ok (.lreturn, 1) := by decide +kernel
theorem dX13_told_152 : decode cX13_told 152 = .ok (.aload_n 0, 1) := by decide +kernel
theorem dX13_told_153 : decode cX13_told 153 = .ok (.iconst 2, 1) := by decide +kernel
theorem dX13_told_154 : decode cX13_told 154 = .ok (.putfield 138, 3) := by decide +kernel
theorem dX13_told_157 : decode cX13_told 157 = .ok (.lconst 0, 1) := by decide +kernel
theorem dX13_told_158 : decode cX13_told 158 = .ok (.lreturn, 1) := by decide +kernel
theorem dX13_overlap_0 : decode cX13_overlap 0 = .ok (.aload_n 0, 1) := by decide +kernel
theorem dX13_overlap_1 : decode cX13_overlap 1 = .ok (.iload_n 1, 1) := by decide +kernel
theorem dX13_overlap_2 : decode cX13_overlap 2 = .ok (.ifCond .lt 23, 3) := by decide +kernel
theorem dX13_overlap_5 : decode cX13_overlap 5 = .ok (.iload_n 1, 1) := by decide +kernel
theorem dX13_overlap_6 : decode cX13_overlap 6 = .ok (.aload_n 0, 1) := by decide +kernel
theorem dX13_overlap_7 : decode cX13_overlap 7 = .ok (.getfield 223, 3) := by decide +kernel
theorem dX13_overlap_10 : decode cX13_overlap 10 = .ok (.if_icmp .ge 15, 3) := by decide +kernel
theorem dX13_overlap_13 : decode cX13_overlap 13 = .ok (.iload_n 2, 1) := by decide +kernel
theorem dX13_overlap_14 : decode cX13_overlap 14 = .ok (.ifCond .lt 11, 3) := by decide +kernel
theorem dX13_overlap_17 : decode cX13_overlap 17 = .ok (.iload_n 2, 1) := by decide +kernel
theorem dX13_overlap_18 : decode cX13_overlap 18 = .ok (.aload_n 0, 1) := by decide +kernel
theorem dX13_overlap_19 : decode cX13_overlap 19 = .ok (.getfield 223, 3) := by decide +kernel
theorem dX13_overlap_22 : decode cX13_overlap 22 = .ok (.if_icmp .lt 7, 3) := by decide +kernel
theorem dX13_overlap_25 : decode cX13_overlap 25 = .ok (.iconst 1, 1) := by decide +kernel
theorem dX13_overlap_26 : decode cX13_overlap 26 = .ok (.goto 4, 3) := by decide +kernel
theorem dX13_overlap_29 : decode cX13_overlap 29 = .ok (.iconst 0, 1) := by decide +kernel
theorem dX13_overlap_30 : decode cX13_overlap 30 = .ok (.putfield 138, 3) := by decide +kernel
theorem dX13_overlap_33 : decode cX13_overlap 33 = .ok (.aload_n 0, 1) := by decide +kernel
theorem dX13_overlap_34 : decode cX13_overlap 34 = .ok (.getfield 138, 3) := by decide +kernel
theorem dX13_overlap_37 : decode cX13_overlap 37 = .ok (.ifCond .le 5, 3) := by decide +kernel
theorem dX13_overlap_40 : decode cX13_overlap 40 = .ok (.iconst 0, 1) := by decide +kernel
theorem dX13_overlap_41 : decode cX13_overlap 41 = .ok (.ireturn, 1) := by decide +kernel
theorem dX13_overlap_42 : decode cX13_overlap 42 = .ok (.iconst 0, 1) := by decide +kernel
theorem dX13_overlap_43 : decode cX13_overlap 43 = .ok (.istore_n 3, 1) := by decide +kernel
theorem dX13_overlap_44 : decode cX13_overlap 44 = .ok (.iload_n 3, 1) := by decide +kernel
theorem dX13_overlap_45 : decode cX13_overlap 45 = .ok (.aload_n 0, 1) := by decide +kernel
theorem dX13_overlap_46 : decode cX13_overlap 46 = .ok (.getfield 77, 3) := by decide +kernel
theorem dX13_overlap_49 : decode cX13_overlap 49 = .ok (.iload_n 1, 1) := by decide +kernel
theorem dX13_overlap_50 : decode cX13_overlap 50 = .ok (.iaload, 1) := by decide +kernel
theorem dX13_overlap_51 : decode cX13_overlap 51 = .ok (.if_icmp .ge 100, 3) := by decide +kernel
theorem dX13_overlap_54 : decode cX13_overlap 54 = .ok (.iload_n 3, 1) := by decide +kernel
theorem dX13_overlap_55 : decode cX13_overlap 55 = .ok (.aload_n 0, 1) := by decide +kernel
theorem dX13_overlap_56 : decode cX13_overlap 56 = .ok (.getfield 77, 3) := by decide +kernel
theorem dX13_overlap_59 : decode cX13_overlap 59 = .ok (.iload_n 2, 1) := by decide +kernel
theorem dX13_overlap_60 : decode cX13_overlap 60 = .ok (.iaload, 1) := by decide +kernel
theorem dX13_overlap_61 : decode cX13_overlap 61 = .ok (.if_icmp .ge 90, 3) := by decide +kernel
theorem dX13_overlap_64 : decode cX13_overlap 64 = .ok (.iconst 0, 1) := by decide +kernel
theorem dX13_overlap_65 : decode cX13_overlap 65 = .ok (.istore 4, 2) := by decide +kernel
theorem dX13_overlap_67 : decode cX13_overlap 67 = .ok (.iload 4, 2) := by decide +kernel
theorem dX13_overlap_69 : decode cX13_overlap 69 = .ok (.aload_n 0, 1) := by decide +kernel
theorem dX13_overlap_70 : decode cX13_overlap 70 = .ok (.getfield 217, 3) := by decide +kernel
theorem dX13_overlap_73 : decode cX13_overlap 73 = .ok (.if_icmp .ge 72, 3) := by decide +kernel
theorem dX13_overlap_76 : decode cX13_overlap 76 = .ok (.aload_n 0, 1) := by decide +kernel
theorem dX13_overlap_77 : decode cX13_overlap 77 = .ok (.getfield 92, 3) := by decide +kernel
theorem dX13_overlap_80 : decode cX13_overlap 80 = .ok (.sipush 160, 3) := by decide +kernel
theorem dX13_overlap_83 : decode cX13_overlap 83 = .ok (.iload_n 1, 1) := by decide +kernel
theorem dX13_overlap_84 : decode cX13_overlap 84 = .ok (.imul, 1) := by decide +kernel
theorem dX13_overlap_85 : decode cX13_overlap 85 = .ok (.iload_n 3, 1) := by decide +kernel
theorem dX13_overlap_86 : decode cX13_overlap 86 = .ok (.aload_n 0, 1) := by decide +kernel
theorem dX13_overlap_87 : decode cX13_overlap 87 = .ok (.getfield 217, 3) := by decide +kernel
theorem dX13_overlap_90 : decode cX13_overlap 90 = .ok (.imul, 1) := by decide +kernel
theorem dX13_overlap_91 : decode cX13_overlap 91 = .ok (.iadd, 1) := by decide +kernel
theorem dX13_overlap_92 : decode cX13_overlap 92 = .ok (.iload 4, 2) := by decide +kernel
theorem dX13_overlap_94 : decode cX13_overlap 94 = .ok (.iadd, 1) := by decide +kernel
theorem dX13_overlap_95 : decode cX13_overlap 95 = .ok (.iaload, 1) := by decide +kernel
theorem dX13_overlap_96 : decode cX13_overlap 96 = .ok (.istore 5, 2) := by decide +kernel
theorem dX13_overlap_98 : decode cX13_overlap 98 = .ok (.aload_n 0, 1) := by decide +kernel
theorem dX13_overlap_99 : decode cX13_overlap 99 = .ok (.getfield 92, 3) := by decide +kernel
theorem dX13_overlap_102 : decode cX13_overlap 102 = .ok (.sipush 160, 3) := by decide +kernel
theorem dX13_overlap_105 : decode cX13_overlap 105 = .ok (.iload_n 2, 1) := by decide +kernel
theorem dX13_overlap_106 : decode cX13_overlap 106 = .ok (.imul, 1) := by decide +kernel
theorem dX13_overlap_107 : decode cX13_overlap 107 = .ok (.iload_n 3, 1) := by decide +kernel
theorem dX13_overlap_108 : decode cX13_overlap 108 = .ok (.aload_n 0, 1) := by decide +kernel
theorem dX13_overlap_109 : decode cX13_overlap 109 = .ok (.getfield 217, 3) := by decide +kernel
theorem dX13_overlap_112 : decode cX13_overlap 112 = .ok (.imul, 1) := by decide +kernel
theorem dX13_overlap_113 : decode cX13_overlap 113 = .ok (.iadd, 1) := by decide +kernel
theorem dX13_overlap_114 : decode cX13_overlap 114 = .ok (.iload 4, 2) := by decide +kernel
theorem dX13_overlap_116 : decode cX13_overlap 116 = .ok (.iadd, 1) := by decide +kernel
theorem dX13_overlap_117 : decode cX13_overlap 117 = .ok (.iaload, 1) := by decide +kernel
theorem dX13_overlap_118 : decode cX13_overlap 118 = .ok (.istore 6, 2) := by decide +kernel
theorem dX13_overlap_120 : decode cX13_overlap 120 = .ok (.iload 5, 2) := by decide +kernel
theorem dX13_overlap_122 : decode cX13_overlap 122 = .ok (.ifCond .ge 17, 3) := by decide +kernel
theorem dX13_overlap_125 : decode cX13_overlap 125 = .ok (.iload 6, 2) := by decide +kernel
theorem dX13_overlap_127 : decode cX13_overlap 127 = .ok (.ifCond .ge 12, 3) := by decide +kernel
theorem dX13_overlap_130 : decode cX13_overlap 130 = .ok (.iload 5, 2) := by decide +kernel
theorem dX13_overlap_132 : decode cX13_overlap 132 = .ok (.iload 6, 2) := by decide +kernel
theorem dX13_overlap_134 : decode cX13_overlap 134 = .ok (.if_icmp .eq 5, 3) := by decide +kernel
theorem dX13_overlap_137 : decode cX13_overlap 137 = .ok (.iconst 0, 1) := by decide +kernel
theorem dX13_overlap_138 : decode cX13_overlap 138 = .ok (.ireturn, 1) := by decide +kernel
theorem dX13_overlap_139 : decode cX13_overlap 139 = .ok (.iinc 4 1, 3) := by decide +kernel
theorem dX13_overlap_142 : decode cX13_overlap 142 = .ok (.goto (-75), 3) := by decide +kernel
theorem dX13_overlap_145 : decode cX13_overlap 145 = .ok (.iinc 3 1, 3) := by decide +kernel
theorem dX13_overlap_148 : decode cX13_overlap 148 = .ok (.goto (-104), 3) := by decide +kernel
theorem dX13_overlap_151 : decode cX13_overlap 151 = .ok (.iconst 1, 1) := by decide +kernel
theorem dX13_overlap_152 : decode cX13_overlap 152 = .ok (.ireturn, 1) := by decide +kernel
theorem dX13_count_0 : decode cX13_count 0 = .ok (.aload_n 0, 1) := by decide +kernel
theorem dX13_count_1 : decode cX13_count 1 = .ok (.iload_n 1, 1) := by decide +kernel
theorem dX13_count_2 : decode cX13_count 2 = .ok (.ifCond .lt 9, 3) := by decide +kernel
theorem dX13_count_5 : decode cX13_count 5 = .ok (.iload_n 1, 1) := by decide +kernel
theorem dX13_count_6 : decode cX13_count 6 = .ok (.bipush 7, 2) := by decide +kernel
theorem dX13_count_8 : decode cX13_count 8 = .ok (.if_icmp .le 7, 3) := by decide +kernel
theorem dX13_count_11 : decode cX13_count 11 = .ok (.iconst 1, 1) := by decide +kernel
theorem dX13_count_12 : decode cX13_count 12 = .ok (.goto 4, 3) := by decide +kernel
theorem dX13_count_15 : decode cX13_count 15 = .ok (.iconst 0, 1) := by decide +kernel
theorem dX13_count_16 : decode cX13_count 16 = .ok (.putfield 138, 3) := by decide +kernel
theorem dX13_count_19 : decode cX13_count 19 = .ok (.aload_n 0, 1) := by decide +kernel
theorem dX13_count_20 : decode cX13_count 20 = .ok (.getfield 138, 3) := by decide +kernel
theorem dX13_count_23 : decode cX13_count 23 = .ok (.ifCond .le 5, 3) := by decide +kernel
theorem dX13_count_26 : decode cX13_count 26 = .ok (.iconst 0, 1) := by decide +kernel
theorem dX13_count_27 : decode cX13_count 27 = .ok (.ireturn, 1) := by decide +kernel
theorem dX13_count_28 : decode cX13_count 28 = .ok (.iload_n 1, 1) := by decide +kernel
theorem dX13_count_29 : decode cX13_count 29 = .ok (.tableswitch 78 0 6 #[43, 48, 53, 58, 63, 68, 73], 43) := by decide +kernel
theorem dX13_count_72 : decode cX13_count 72 = .ok (.aload_n 0, 1) := by decide +kernel
theorem dX13_count_73 : decode cX13_count 73 = .ok (.getfield 223, 3) := by decide +kernel
theorem dX13_count_76 : decode cX13_count 76 = .ok (.ireturn, 1) := by decide +kernel
theorem dX13_count_77 : decode cX13_count 77 = .ok (.aload_n 0, 1) := by decide +kernel
theorem dX13_count_78 : decode cX13_count 78 = .ok (.getfield 217, 3) := by decide +kernel
theorem dX13_count_81 : decode cX13_count 81 = .ok (.ireturn, 1) := by decide +kernel
theorem dX13_count_82 : decode cX13_count 82 = .ok (.aload_n 0, 1) := by decide +kernel
theorem dX13_count_83 : decode cX13_count 83 = .ok (.getfield 220, 3) := by decide +kernel
theorem dX13_count_86 : decode cX13_count 86 = .ok (.ireturn, 1) := by decide +kernel
theorem dX13_count_87 : decode cX13_count 87 = .ok (.aload_n 0, 1) := by decide +kernel
theorem dX13_count_88 : decode cX13_count 88 = .ok (.getfield 283, 3) := by decide +kernel
theorem dX13_count_91 : decode cX13_count 91 = .ok (.ireturn, 1) := by decide +kernel
theorem dX13_count_92 : decode cX13_count 92 = .ok (.aload_n 0, 1) := by decide +kernel
theorem dX13_count_93 : decode cX13_count 93 = .ok (.getfield 286, 3) := by decide +kernel
theorem dX13_count_96 : decode cX13_count 96 = .ok (.ireturn, 1) := by decide +kernel
theorem dX13_count_97 : decode cX13_count 97 = .ok (.aload_n 0, 1) := by decide +kernel
theorem dX13_count_98 : decode cX13_count 98 = .ok (.getfield 289, 3) := by decide +kernel
theorem dX13_count_101 : decode cX13_count 101 = .ok (.ireturn, 1) := by decide +kernel
theorem dX13_count_102 : decode cX13_count 102 = .ok (.aload_n 0, 1) := by decide +kernel
theorem dX13_count_103 : decode cX13_count 103 = .ok (.getfield 364, 3) := by decide +kernel
theorem dX13_count_106 : decode cX13_count 106 = .ok (.ireturn, 1) := by decide +kernel
theorem dX13_count_107 : decode cX13_count 107 = .ok (.aload_n 0, 1) := by decide +kernel
theorem dX13_count_108 : decode cX13_count 108 = .ok (.getfield 339, 3) := by decide +kernel
theorem dX13_count_111 : decode cX13_count 111 = .ok (.ireturn, 1) := by decide +kernel
theorem dL_feed_0 : decode cL_feed 0 = .ok (.aload 6, 2) := by decide +kernel
theorem dL_feed_2 : decode cL_feed 2 = .ok (.iconst 0, 1) := by decide +kernel
theorem dL_feed_3 : decode cL_feed 3 = .ok (.aload_n 0, 1) := by decide +kernel
theorem dL_feed_4 : decode cL_feed 4 = .ok (.iload_n 1, 1) := by decide +kernel
theorem dL_feed_5 : decode cL_feed 5 = .ok (.iload_n 2, 1) := by decide +kernel
theorem dL_feed_6 : decode cL_feed 6 = .ok (.iload_n 3, 1) := by decide +kernel
theorem dL_feed_7 : decode cL_feed 7 = .ok (.iload 4, 2) := by decide +kernel
theorem dL_feed_9 : decode cL_feed 9 = .ok (.iload 5, 2) := by decide +kernel
theorem dL_feed_11 : decode cL_feed 11 = .ok (.invokevirtual 7, 3) := by decide +kernel
theorem dL_feed_14 : decode cL_feed 14 = .ok (.i2l, 1) := by decide +kernel
theorem dL_feed_15 : decode cL_feed 15 = .ok (.lastore, 1) := by decide +kernel
theorem dL_feed_16 : decode cL_feed 16 = .ok (.goto 7, 3) := by decide +kernel
theorem dL_feed_19 : decode cL_feed 19 = .ok (.astore 7, 2) := by decide +kernel
theorem dL_feed_21 : decode cL_feed 21 = .ok (.iconst 1, 1) := by decide +kernel
theorem dL_feed_22 : decode cL_feed 22 = .ok (.ireturn, 1) := by decide +kernel
theorem dL_feed_23 : decode cL_feed 23 = .ok (.iconst 0, 1) := by decide +kernel
theorem dL_feed_24 : decode cL_feed 24 = .ok (.ireturn, 1) := by decide +kernel
theorem dL_end_0 : decode cL_end 0 = .ok (.aload_n 2, 1) := by decide +kernel
theorem dL_end_1 : decode cL_end 1 = .ok (.iconst 0, 1) := by decide +kernel
theorem dL_end_2 : decode cL_end 2 = .ok (.aload_n 0, 1) := by decide +kernel
theorem dL_end_3 : decode cL_end 3 = .ok (.iload_n 1, 1) := by decide +kernel
theorem dL_end_4 : decode cL_end 4 = .ok (.invokevirtual 15, 3) := by decide +kernel
theorem dL_end_7 : decode cL_end 7 = .ok (.i2l, 1) := by decide +kernel
theorem dL_end_8 : decode cL_end 8 = .ok (.lastore, 1) := by decide +kernel
theorem dL_end_9 : decode cL_end 9 = .ok (.goto 6, 3) := by decide +kernel
theorem dL_end_12 : decode cL_end 12 = .ok (.astore_n 3, 1) := by decide +kernel
theorem dL_end_13 : decode cL_end 13 = .ok (.iconst 1, 1) := by decide +kernel
theorem dL_end_14 : decode cL_end 14 = .ok (.ireturn, 1) := by decide +kernel
theorem dL_end_15 : decode cL_end 15 = .ok (.iconst 0, 1) := by decide +kernel
theorem dL_end_16 : decode cL_end 16 = .ok (.ireturn, 1) := by decide +kernel
theorem dL_describe_0 : decode cL_describe 0 = .ok (.aload_n 1, 1) := by decide +kernel
theorem dL_describe_1 : decode cL_describe 1 = .ok (.iconst 0, 1) := by decide +kernel
theorem dL_describe_2 : decode cL_describe 2 = .ok (.aload_n 0, 1) := by decide +kernel
theorem dL_describe_3 : decode cL_describe 3 = .ok (.invokevirtual 21, 3) := by decide +kernel
theorem dL_describe_6 : decode cL_describe 6 = .ok (.i2l, 1) := by decide +kernel
theorem dL_describe_7 : decode cL_describe 7 = .ok (.lastore, 1) := by decide +kernel
theorem dL_describe_8 : decode cL_describe 8 = .ok (.goto 6, 3) := by decide +kernel
theorem dL_describe_11 : decode cL_describe 11 = .ok (.astore_n 2, 1) := by decide +kernel
theorem dL_describe_12 : decode cL_describe 12 = .ok (.iconst 1, 1) := by decide +kernel
theorem dL_describe_13 : decode cL_describe 13 = .ok (.ireturn, 1) := by decide +kernel
theorem dL_describe_14 : decode cL_describe 14 = .ok (.iconst 0, 1) := by decide +kernel
theorem dL_describe_15 : decode cL_describe 15 = .ok (.ireturn, 1) := by decide +kernel
theorem dL_assemble_0 : decode cL_assemble 0 = .ok (.aload_n 1, 1) := by decide +kernel
theorem dL_assemble_1 : decode cL_assemble 1 = .ok (.iconst 0, 1) := by decide +kernel
theorem dL_assemble_2 : decode cL_assemble 2 = .ok (.aload_n 0, 1) := by decide +kernel
theorem dL_assemble_3 : decode cL_assemble 3 = .ok (.invokevirtual 27, 3) := by decide +kernel
theorem dL_assemble_6 : decode cL_assemble 6 = .ok (.i2l, 1) := by decide +kernel
theorem dL_assemble_7 : decode cL_assemble 7 = .ok (.lastore, 1) := by decide +kernel
theorem dL_assemble_8 : decode cL_assemble 8 = .ok (.goto 9, 3) := by decide +kernel
theorem dL_assemble_11 : decode cL_assemble 11 = .ok (.astore_n 2, 1) := by decide +kernel
theorem dL_assemble_12 : decode cL_assemble 12 = .ok (.iconst 1, 1) := by decide +kernel
theorem dL_assemble_13 : decode cL_assemble 13 = .ok (.ireturn, 1) := by decide +kernel
theorem dL_assemble_14 : decode cL_assemble 14 = .ok (.astore_n 2, 1) := by decide +kernel
theorem dL_assemble_15 : decode cL_assemble 15 = .ok (.iconst 2, 1) := by decide +kernel
theorem dL_assemble_16 : decode cL_assemble 16 = .ok (.ireturn, 1) := by decide +kernel
theorem dL_assemble_17 : decode cL_assemble 17 = .ok (.iconst 0, 1) := by decide +kernel
theorem dL_assemble_18 : decode cL_assemble 18 = .ok (.ireturn, 1) := by decide +kernel
theorem dL_word_0 : decode cL_word 0 = .ok (.aload_n 2, 1) := by decide +kernel
theorem dL_word_1 : decode cL_word 1 = .ok (.iconst 0, 1) := by decide +kernel
theorem dL_word_2 : decode cL_word 2 = .ok (.aload_n 0, 1) := by decide +kernel
theorem dL_word_3 : decode cL_word 3 = .ok (.iload_n 1, 1) := by decide +kernel
theorem dL_word_4 : decode cL_word 4 = .ok (.invokevirtual 30, 3) := by decide +kernel
theorem dL_word_7 : decode cL_word 7 = .ok (.lastore, 1) := by decide +kernel
theorem dL_word_8 : decode cL_word 8 = .ok (.goto 6, 3) := by decide +kernel
theorem dL_word_11 : decode cL_word 11 = .ok (.astore_n 3, 1) := by decide +kernel
theorem dL_word_12 : decode cL_word 12 = .ok (.iconst 1, 1) := by decide +kernel
theorem dL_word_13 : decode cL_word 13 = .ok (.ireturn, 1) := by decide +kernel
theorem dL_word_14 : decode cL_word 14 = .ok (.iconst 0, 1) := by decide +kernel
theorem dL_word_15 : decode cL_word 15 = .ok (.ireturn, 1) := by decide +kernel
theorem dL_poke_0 : decode cL_poke 0 = .ok (.aload 4, 2) := by decide +kernel
theorem dL_poke_2 : decode cL_poke 2 = .ok (.iconst 0, 1) := by decide +kernel
theorem dL_poke_3 : decode cL_poke 3 = .ok (.aload_n 0, 1) := by decide +kernel
theorem dL_poke_4 : decode cL_poke 4 = .ok (.iload_n 1, 1) := by decide +kernel
theorem dL_poke_5 : decode cL_poke 5 = .ok (.lload_n 2, 1) := by decide +kernel
theorem dL_poke_6 : decode cL_poke 6 = .ok (.invokevirtual 36, 3) := by decide +kernel
theorem dL_poke_9 : decode cL_poke 9 = .ok (.i2l, 1) := by decide +kernel
theorem dL_poke_10 : decode cL_poke 10 = .ok (.lastore, 1) := by decide +kernel
theorem dL_poke_11 : decode cL_poke 11 = .ok (.goto 11, 3) := by decide +kernel
theorem dL_poke_14 : decode cL_poke 14 = .ok (.astore 5, 2) := by decide +kernel
theorem dL_poke_16 : decode cL_poke 16 = .ok (.iconst 1, 1) := by decide +kernel
theorem dL_poke_17 : decode cL_poke 17 = .ok (.ireturn, 1) := by decide +kernel
theorem dL_poke_18 : decode cL_poke 18 = .ok (.astore 5, 2) := by decide +kernel
theorem dL_poke_20 : decode cL_poke 20 = .ok (.iconst 2, 1) := by decide +kernel
theorem dL_poke_21 : decode cL_poke 21 = .ok (.ireturn, 1) := by decide +kernel
theorem dL_poke_22 : decode cL_poke 22 = .ok (.iconst 0, 1) := by decide +kernel
theorem dL_poke_23 : decode cL_poke 23 = .ok (.ireturn, 1) := by decide +kernel
theorem dL_list_0 : decode cL_list 0 = .ok (.aload_n 2, 1) := by decide +kernel
theorem dL_list_1 : decode cL_list 1 = .ok (.iconst 0, 1) := by decide +kernel
theorem dL_list_2 : decode cL_list 2 = .ok (.aload_n 0, 1) := by decide +kernel
theorem dL_list_3 : decode cL_list 3 = .ok (.iload_n 1, 1) := by decide +kernel
theorem dL_list_4 : decode cL_list 4 = .ok (.invokevirtual 40, 3) := by decide +kernel
theorem dL_list_7 : decode cL_list 7 = .ok (.i2l, 1) := by decide +kernel
theorem dL_list_8 : decode cL_list 8 = .ok (.lastore, 1) := by decide +kernel
theorem dL_list_9 : decode cL_list 9 = .ok (.goto 6, 3) := by decide +kernel
theorem dL_list_12 : decode cL_list 12 = .ok (.astore_n 3, 1) := by decide +kernel
theorem dL_list_13 : decode cL_list 13 = .ok (.iconst 1, 1) := by decide +kernel
theorem dL_list_14 : decode cL_list 14 = .ok (.ireturn, 1) := by decide +kernel
theorem dL_list_15 : decode cL_list 15 = .ok (.iconst 0, 1) := by decide +kernel
theorem dL_list_16 : decode cL_list 16 = .ok (.ireturn, 1) := by decide +kernel
theorem dL_listing_0 : decode cL_listing 0 = .ok (.aload_n 2, 1) := by decide +kernel
theorem dL_listing_1 : decode cL_listing 1 = .ok (.iconst 0, 1) := by decide +kernel
theorem dL_listing_2 : decode cL_listing 2 = .ok (.aload_n 0, 1) := by decide +kernel
theorem dL_listing_3 : decode cL_listing 3 = .ok (.iload_n 1, 1) := by decide +kernel
theorem dL_listing_4 : decode cL_listing 4 = .ok (.invokevirtual 43, 3) := by decide +kernel
theorem dL_listing_7 : decode cL_listing 7 = .ok (.lastore, 1) := by decide +kernel
theorem dL_listing_8 : decode cL_listing 8 = .ok (.goto 6, 3) := by decide +kernel
theorem dL_listing_11 : decode cL_listing 11 = .ok (.astore_n 3, 1) := by decide +kernel
theorem dL_listing_12 : decode cL_listing 12 = .ok (.iconst 1, 1) := by decide +kernel
theorem dL_listing_13 : decode cL_listing 13 = .ok (.ireturn, 1) := by decide +kernel
theorem dL_listing_14 : decode cL_listing 14 = .ok (.iconst 0, 1) := by decide +kernel
theorem dL_listing_15 : decode cL_listing 15 = .ok (.ireturn, 1) := by decide +kernel
theorem dL_quote_0 : decode cL_quote 0 = .ok (.aload_n 1, 1) := by decide +kernel
theorem dL_quote_1 : decode cL_quote 1 = .ok (.iconst 0, 1) := by decide +kernel
theorem dL_quote_2 : decode cL_quote 2 = .ok (.aload_n 0, 1) := by decide +kernel
theorem dL_quote_3 : decode cL_quote 3 = .ok (.invokevirtual 46, 3) := by decide +kernel
theorem dL_quote_6 : decode cL_quote 6 = .ok (.i2l, 1) := by decide +kernel
theorem dL_quote_7 : decode cL_quote 7 = .ok (.lastore, 1) := by decide +kernel
theorem dL_quote_8 : decode cL_quote 8 = .ok (.goto 6, 3) := by decide +kernel
theorem dL_quote_11 : decode cL_quote 11 = .ok (.astore_n 2, 1) := by decide +kernel
theorem dL_quote_12 : decode cL_quote 12 = .ok (.iconst 1, 1) := by decide +kernel
theorem dL_quote_13 : decode cL_quote 13 = .ok (.ireturn, 1) := by decide +kernel
theorem dL_quote_14 : decode cL_quote 14 = .ok (.iconst 0, 1) := by decide +kernel
theorem dL_quote_15 : decode cL_quote 15 = .ok (.ireturn, 1) := by decide +kernel
theorem dL_told_0 : decode cL_told 0 = .ok (.aload_n 3, 1) := by decide +kernel
theorem dL_told_1 : decode cL_told 1 = .ok (.iconst 0, 1) := by decide +kernel
theorem dL_told_2 : decode cL_told 2 = .ok (.aload_n 0, 1) := by decide +kernel
theorem dL_told_3 : decode cL_told 3 = .ok (.iload_n 1, 1) := by decide +kernel
theorem dL_told_4 : decode cL_told 4 = .ok (.iload_n 2, 1) := by decide +kernel
theorem dL_told_5 : decode cL_told 5 = .ok (.invokevirtual 49, 3) := by decide +kernel
theorem dL_told_8 : decode cL_told 8 = .ok (.lastore, 1) := by decide +kernel
theorem dL_told_9 : decode cL_told 9 = .ok (.goto 11, 3) := by decide +kernel
theorem dL_told_12 : decode cL_told 12 = .ok (.astore 4, 2) := by decide +kernel
theorem dL_told_14 : decode cL_told 14 = .ok (.iconst 1, 1) := by decide +kernel
theorem dL_told_15 : decode cL_told 15 = .ok (.ireturn, 1) := by decide +kernel
theorem dL_told_16 : decode cL_told 16 = .ok (.astore 4, 2) := by decide +kernel
theorem dL_told_18 : decode cL_told 18 = .ok (.iconst 2, 1) := by decide +kernel
theorem dL_told_19 : decode cL_told 19 = .ok (.ireturn, 1) := by decide +kernel
theorem dL_told_20 : decode cL_told 20 = .ok (.iconst 0, 1) := by decide +kernel
theorem dL_told_21 : decode cL_told 21 = .ok (.ireturn, 1) := by decide +kernel
theorem dL_overlap_0 : decode cL_overlap 0 = .ok (.aload_n 3, 1) := by decide +kernel
theorem dL_overlap_1 : decode cL_overlap 1 = .ok (.iconst 0, 1) := by decide +kernel
theorem dL_overlap_2 : decode cL_overlap 2 = .ok (.aload_n 0, 1) := by decide +kernel
theorem dL_overlap_3 : decode cL_overlap 3 = .ok (.iload_n 1, 1) := by decide +kernel
theorem dL_overlap_4 : decode cL_overlap 4 = .ok (.iload_n 2, 1) := by decide +kernel
theorem dL_overlap_5 : decode cL_overlap 5 = .ok (.invokevirtual 55, 3) := by decide +kernel
theorem dL_overlap_8 : decode cL_overlap 8 = .ok (.ifCond .eq 7, 3) := by decide +kernel
theorem dL_overlap_11 : decode cL_overlap 11 = .ok (.lconst 1, 1) := by decide +kernel
theorem dL_overlap_12 : decode cL_overlap 12 = .ok (.goto 4, 3) := by decide +kernel
theorem dL_overlap_15 : decode cL_overlap 15 = .ok (.lconst 0, 1) := by decide +kernel
theorem dL_overlap_16 : decode cL_overlap 16 = .ok (.lastore, 1) := by decide +kernel
theorem dL_overlap_17 : decode cL_overlap 17 = .ok (.goto 7, 3) := by decide +kernel
theorem dL_overlap_20 : decode cL_overlap 20 = .ok (.astore 4, 2) := by decide +kernel
theorem dL_overlap_22 : decode cL_overlap 22 = .ok (.iconst 1, 1) := by decide +kernel
theorem dL_overlap_23 : decode cL_overlap 23 = .ok (.ireturn, 1) := by decide +kernel
theorem dL_overlap_24 : decode cL_overlap 24 = .ok (.iconst 0, 1) := by decide +kernel
theorem dL_overlap_25 : decode cL_overlap 25 = .ok (.ireturn, 1) := by decide +kernel
theorem dL_count_0 : decode cL_count 0 = .ok (.aload_n 2, 1) := by decide +kernel
theorem dL_count_1 : decode cL_count 1 = .ok (.iconst 0, 1) := by decide +kernel
theorem dL_count_2 : decode cL_count 2 = .ok (.aload_n 0, 1) := by decide +kernel
theorem dL_count_3 : decode cL_count 3 = .ok (.iload_n 1, 1) := by decide +kernel
theorem dL_count_4 : decode cL_count 4 = .ok (.invokevirtual 59, 3) := by decide +kernel
theorem dL_count_7 : decode cL_count 7 = .ok (.i2l, 1) := by decide +kernel
theorem dL_count_8 : decode cL_count 8 = .ok (.lastore, 1) := by decide +kernel
theorem dL_count_9 : decode cL_count 9 = .ok (.goto 6, 3) := by decide +kernel
theorem dL_count_12 : decode cL_count 12 = .ok (.astore_n 3, 1) := by decide +kernel
theorem dL_count_13 : decode cL_count 13 = .ok (.iconst 1, 1) := by decide +kernel
theorem dL_count_14 : decode cL_count 14 = .ok (.ireturn, 1) := by decide +kernel
theorem dL_count_15 : decode cL_count 15 = .ok (.iconst 0, 1) := by decide +kernel
theorem dL_count_16 : decode cL_count 16 = .ok (.ireturn, 1) := by decide +kernel
