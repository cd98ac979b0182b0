theorem dX10_init_0 : decode cX10_init 0 = .ok (.aload_n 0, 1) := by decide +kernel
theorem dX10_init_1 : decode cX10_init 1 = .ok (.invokespecial 3, 3) := by decide +kernel
theorem dX10_init_4 : decode cX10_init 4 = .ok (.aload_n 0, 1) := by decide +kernel
theorem dX10_init_5 : decode cX10_init 5 = .ok (.sipush 6000, 3) := by decide +kernel
theorem dX10_init_8 : decode cX10_init 8 = .ok (.newarray .byte, 2) := by decide +kernel
theorem dX10_init_10 : decode cX10_init 10 = .ok (.putfield 9, 3) := by decide +kernel
theorem dX10_init_13 : decode cX10_init 13 = .ok (.aload_n 0, 1) := by decide +kernel
theorem dX10_init_14 : decode cX10_init 14 = .ok (.sipush 6003, 3) := by decide +kernel
theorem dX10_init_17 : decode cX10_init 17 = .ok (.newarray .byte, 2) := by decide +kernel
theorem dX10_init_19 : decode cX10_init 19 = .ok (.putfield 15, 3) := by decide +kernel
theorem dX10_init_22 : decode cX10_init 22 = .ok (.aload_n 0, 1) := by decide +kernel
theorem dX10_init_23 : decode cX10_init 23 = .ok (.sipush 6003, 3) := by decide +kernel
theorem dX10_init_26 : decode cX10_init 26 = .ok (.newarray .int, 2) := by decide +kernel
theorem dX10_init_28 : decode cX10_init 28 = .ok (.putfield 18, 3) := by decide +kernel
theorem dX10_init_31 : decode cX10_init 31 = .ok (.aload_n 0, 1) := by decide +kernel
theorem dX10_init_32 : decode cX10_init 32 = .ok (.sipush 6003, 3) := by decide +kernel
theorem dX10_init_35 : decode cX10_init 35 = .ok (.newarray .int, 2) := by decide +kernel
theorem dX10_init_37 : decode cX10_init 37 = .ok (.putfield 22, 3) := by decide +kernel
theorem dX10_init_40 : decode cX10_init 40 = .ok (.aload_n 0, 1) := by decide +kernel
theorem dX10_init_41 : decode cX10_init 41 = .ok (.sipush 6003, 3) := by decide +kernel
theorem dX10_init_44 : decode cX10_init 44 = .ok (.newarray .long, 2) := by decide +kernel
theorem dX10_init_46 : decode cX10_init 46 = .ok (.putfield 25, 3) := by decide +kernel
theorem dX10_init_49 : decode cX10_init 49 = .ok (.return_, 1) := by decide +kernel
theorem dX10_hasRoomFor_0 : decode cX10_hasRoomFor 0 = .ok (.aload_n 0, 1) := by decide +kernel
theorem dX10_hasRoomFor_1 : decode cX10_hasRoomFor 1 = .ok (.getfield 29, 3) := by decide +kernel
theorem dX10_hasRoomFor_4 : decode cX10_hasRoomFor 4 = .ok (.iload_n 1, 1) := by decide +kernel
theorem dX10_hasRoomFor_5 : decode cX10_hasRoomFor 5 = .ok (.iadd, 1) := by decide +kernel
theorem dX10_hasRoomFor_6 : decode cX10_hasRoomFor 6 = .ok (.sipush 6000, 3) := by decide +kernel
theorem dX10_hasRoomFor_9 : decode cX10_hasRoomFor 9 = .ok (.if_icmp .gt 7, 3) := by decide +kernel
theorem dX10_hasRoomFor_12 : decode cX10_hasRoomFor 12 = .ok (.iconst 1, 1) := by decide +kernel
theorem dX10_hasRoomFor_13 : decode cX10_hasRoomFor 13 = .ok (.goto 4, 3) := by decide +kernel
theorem dX10_hasRoomFor_16 : decode cX10_hasRoomFor 16 = .ok (.iconst 0, 1) := by decide +kernel
theorem dX10_hasRoomFor_17 : decode cX10_hasRoomFor 17 = .ok (.ireturn, 1) := by decide +kernel
theorem dX10_addByte_0 : decode cX10_addByte 0 = .ok (.aload_n 0, 1) := by decide +kernel
theorem dX10_addByte_1 : decode cX10_addByte 1 = .ok (.getfield 9, 3) := by decide +kernel
theorem dX10_addByte_4 : decode cX10_addByte 4 = .ok (.aload_n 0, 1) := by decide +kernel
theorem dX10_addByte_5 : decode cX10_addByte 5 = .ok (.getfield 29, 3) := by decide +kernel
theorem dX10_addByte_8 : decode cX10_addByte 8 = .ok (.iload_n 1, 1) := by decide +kernel
theorem dX10_addByte_9 : decode cX10_addByte 9 = .ok (.i2b, 1) := by decide +kernel
theorem dX10_addByte_10 : decode cX10_addByte 10 = .ok (.bastore, 1) := by decide +kernel
theorem dX10_addByte_11 : decode cX10_addByte 11 = .ok (.aload_n 0, 1) := by decide +kernel
theorem dX10_addByte_12 : decode cX10_addByte 12 = .ok (.dup, 1) := by decide +kernel
theorem dX10_addByte_13 : decode cX10_addByte 13 = .ok (.getfield 29, 3) := by decide +kernel
theorem dX10_addByte_16 : decode cX10_addByte 16 = .ok (.iconst 1, 1) := by decide +kernel
theorem dX10_addByte_17 : decode cX10_addByte 17 = .ok (.iadd, 1) := by decide +kernel
theorem dX10_addByte_18 : decode cX10_addByte 18 = .ok (.putfield 29, 3) := by decide +kernel
theorem dX10_addByte_21 : decode cX10_addByte 21 = .ok (.return_, 1) := by decide +kernel
theorem dX10_addFour_0 : decode cX10_addFour 0 = .ok (.aload_n 0, 1) := by decide +kernel
theorem dX10_addFour_1 : decode cX10_addFour 1 = .ok (.iload_n 1, 1) := by decide +kernel
theorem dX10_addFour_2 : decode cX10_addFour 2 = .ok (.bipush 24, 2) := by decide +kernel
theorem dX10_addFour_4 : decode cX10_addFour 4 = .ok (.iushr, 1) := by decide +kernel
theorem dX10_addFour_5 : decode cX10_addFour 5 = .ok (.invokevirtual 33, 3) := by decide +kernel
theorem dX10_addFour_8 : decode cX10_addFour 8 = .ok (.aload_n 0, 1) := by decide +kernel
theorem dX10_addFour_9 : decode cX10_addFour 9 = .ok (.iload_n 1, 1) := by decide +kernel
theorem dX10_addFour_10 : decode cX10_addFour 10 = .ok (.bipush 16, 2) := by decide +kernel
theorem dX10_addFour_12 : decode cX10_addFour 12 = .ok (.iushr, 1) := by decide +kernel
theorem dX10_addFour_13 : decode cX10_addFour 13 = .ok (.invokevirtual 33, 3) := by decide +kernel
theorem dX10_addFour_16 : decode cX10_addFour 16 = .ok (.aload_n 0, 1) := by decide +kernel
theorem dX10_addFour_17 : decode cX10_addFour 17 = .ok (.iload_n 1, 1) := by decide +kernel
theorem dX10_addFour_18 : decode cX10_addFour 18 = .ok (.bipush 8, 2) := by decide +kernel
theorem dX10_addFour_20 : decode cX10_addFour 20 = .ok (.iushr, 1) := by decide +kernel
theorem dX10_addFour_21 : decode cX10_addFour 21 = .ok (.invokevirtual 33, 3) := by decide +kernel
theorem dX10_addFour_24 : decode cX10_addFour 24 = .ok (.aload_n 0, 1) := by decide +kernel
theorem dX10_addFour_25 : decode cX10_addFour 25 = .ok (.iload_n 1, 1) := by decide +kernel
theorem dX10_addFour_26 : decode cX10_addFour 26 = .ok (.invokevirtual 33, 3) := by decide +kernel
theorem dX10_addFour_29 : decode cX10_addFour 29 = .ok (.return_, 1) := by decide +kernel
theorem dX10_addToken_0 : decode cX10_addToken 0 = .ok (.aload_n 0, 1) := by decide +kernel
theorem dX10_addToken_1 : decode cX10_addToken 1 = .ok (.getfield 15, 3) := by decide +kernel
theorem dX10_addToken_4 : decode cX10_addToken 4 = .ok (.aload_n 0, 1) := by decide +kernel
theorem dX10_addToken_5 : decode cX10_addToken 5 = .ok (.getfield 37, 3) := by decide +kernel
theorem dX10_addToken_8 : decode cX10_addToken 8 = .ok (.iload_n 1, 1) := by decide +kernel
theorem dX10_addToken_9 : decode cX10_addToken 9 = .ok (.i2b, 1) := by decide +kernel
theorem dX10_addToken_10 : decode cX10_addToken 10 = .ok (.bastore, 1) := by decide +kernel
theorem dX10_addToken_11 : decode cX10_addToken 11 = .ok (.aload_n 0, 1) := by decide +kernel
theorem dX10_addToken_12 : decode cX10_addToken 12 = .ok (.getfield 18, 3) := by decide +kernel
theorem dX10_addToken_15 : decode cX10_addToken 15 = .ok (.aload_n 0, 1) := by decide +kernel
theorem dX10_addToken_16 : decode cX10_addToken 16 = .ok (.getfield 37, 3) := by decide +kernel
theorem dX10_addToken_19 : decode cX10_addToken 19 = .ok (.iload_n 2, 1) := by decide +kernel
theorem dX10_addToken_20 : decode cX10_addToken 20 = .ok (.iastore, 1) := by decide +kernel
theorem dX10_addToken_21 : decode cX10_addToken 21 = .ok (.aload_n 0, 1) := by decide +kernel
theorem dX10_addToken_22 : decode cX10_addToken 22 = .ok (.getfield 22, 3) := by decide +kernel
theorem dX10_addToken_25 : decode cX10_addToken 25 = .ok (.aload_n 0, 1) := by decide +kernel
theorem dX10_addToken_26 : decode cX10_addToken 26 = .ok (.getfield 37, 3) := by decide +kernel
theorem dX10_addToken_29 : decode cX10_addToken 29 = .ok (.iload_n 3, 1) := by decide +kernel
theorem dX10_addToken_30 : decode cX10_addToken 30 = .ok (.iastore, 1) := by decide +kernel
theorem dX10_addToken_31 : decode cX10_addToken 31 = .ok (.aload_n 0, 1) := by decide +kernel
theorem dX10_addToken_32 : decode cX10_addToken 32 = .ok (.getfield 25, 3) := by decide +kernel
theorem dX10_addToken_35 : decode cX10_addToken 35 = .ok (.aload_n 0, 1) := by decide +kernel
theorem dX10_addToken_36 : decode cX10_addToken 36 = .ok (.getfield 37, 3) := by decide +kernel
theorem dX10_addToken_39 : decode cX10_addToken 39 = .ok (.lload 4, 2) := by decide +kernel
theorem dX10_addToken_41 : decode cX10_addToken 41 = .ok (.lastore, 1) := by decide +kernel
theorem dX10_addToken_42 : decode cX10_addToken 42 = .ok (.aload_n 0, 1) := by decide +kernel
theorem dX10_addToken_43 : decode cX10_addToken 43 = .ok (.dup, 1) := by decide +kernel
theorem dX10_addToken_44 : decode cX10_addToken 44 = .ok (.getfield 37, 3) := by decide +kernel
theorem dX10_addToken_47 : decode cX10_addToken 47 = .ok (.iconst 1, 1) := by decide +kernel
theorem dX10_addToken_48 : decode cX10_addToken 48 = .ok (.iadd, 1) := by decide +kernel
theorem dX10_addToken_49 : decode cX10_addToken 49 = .ok (.putfield 37, 3) := by decide +kernel
theorem dX10_addToken_52 : decode cX10_addToken 52 = .ok (.return_, 1) := by decide +kernel
theorem dX10_commentEnd_0 : decode cX10_commentEnd 0 = .ok (.iload_n 1, 1) := by decide +kernel
theorem dX10_commentEnd_1 : decode cX10_commentEnd 1 = .ok (.istore_n 2, 1) := by decide +kernel
theorem dX10_commentEnd_2 : decode cX10_commentEnd 2 = .ok (.iload_n 2, 1) := by decide +kernel
theorem dX10_commentEnd_3 : decode cX10_commentEnd 3 = .ok (.aload_n 0, 1) := by decide +kernel
theorem dX10_commentEnd_4 : decode cX10_commentEnd 4 = .ok (.getfield 29, 3) := by decide +kernel
theorem dX10_commentEnd_7 : decode cX10_commentEnd 7 = .ok (.if_icmp .ge 20, 3) := by decide +kernel
theorem dX10_commentEnd_10 : decode cX10_commentEnd 10 = .ok (.aload_n 0, 1) := by decide +kernel
theorem dX10_commentEnd_11 : decode cX10_commentEnd 11 = .ok (.getfield 9, 3) := by decide +kernel
theorem dX10_commentEnd_14 : decode cX10_commentEnd 14 = .ok (.iload_n 2, 1) := by decide +kernel
theorem dX10_commentEnd_15 : decode cX10_commentEnd 15 = .ok (.baload, 1) := by decide +kernel
theorem dX10_commentEnd_16 : decode cX10_commentEnd 16 = .ok (.bipush 10, 2) := by decide +kernel
theorem dX10_commentEnd_18 : decode cX10_commentEnd 18 = .ok (.if_icmp .eq 9, 3) := by decide +kernel
theorem dX10_commentEnd_21 : decode cX10_commentEnd 21 = .ok (.iinc 2 1, 3) := by decide +kernel
theorem dX10_commentEnd_24 : decode cX10_commentEnd 24 = .ok (.goto (-22), 3) := by decide +kernel
theorem dX10_commentEnd_27 : decode cX10_commentEnd 27 = .ok (.iload_n 2, 1) := by decide +kernel
theorem dX10_commentEnd_28 : decode cX10_commentEnd 28 = .ok (.ireturn, 1) := by decide +kernel
theorem dX10_isLetter_0 : decode cX10_isLetter 0 = .ok (.iload_n 0, 1) := by decide +kernel
theorem dX10_isLetter_1 : decode cX10_isLetter 1 = .ok (.bipush 97, 2) := by decide +kernel
theorem dX10_isLetter_3 : decode cX10_isLetter 3 = .ok (.if_icmp .lt 9, 3) := by decide +kernel
theorem dX10_isLetter_6 : decode cX10_isLetter 6 = .ok (.iload_n 0, 1) := by decide +kernel
theorem dX10_isLetter_7 : decode cX10_isLetter 7 = .ok (.bipush 122, 2) := by decide +kernel
theorem dX10_isLetter_9 : decode cX10_isLetter 9 = .ok (.if_icmp .le 15, 3) := by decide +kernel
theorem dX10_isLetter_12 : decode cX10_isLetter 12 = .ok (.iload_n 0, 1) := by decide +kernel
theorem dX10_isLetter_13 : decode cX10_isLetter 13 = .ok (.bipush 65, 2) := by decide +kernel
theorem dX10_isLetter_15 : decode cX10_isLetter 15 = .ok (.if_icmp .lt 13, 3) := by decide +kernel
theorem dX10_isLetter_18 : decode cX10_isLetter 18 = .ok (.iload_n 0, 1) := by decide +kernel
theorem dX10_isLetter_19 : decode cX10_isLetter 19 = .ok (.bipush 90, 2) := by decide +kernel
theorem dX10_isLetter_21 : decode cX10_isLetter 21 = .ok (.if_icmp .gt 7, 3) := by decide +kernel
theorem dX10_isLetter_24 : decode cX10_isLetter 24 = .ok (.iconst 1, 1) := by decide +kernel
theorem dX10_isLetter_25 : decode cX10_isLetter 25 = .ok (.goto 4, 3) := by decide +kernel
theorem dX10_isLetter_28 : decode cX10_isLetter 28 = .ok (.iconst 0, 1) := by decide +kernel
theorem dX10_isLetter_29 : decode cX10_isLetter 29 = .ok (.ireturn, 1) := by decide +kernel
theorem dX10_isDigit_0 : decode cX10_isDigit 0 = .ok (.iload_n 0, 1) := by decide +kernel
theorem dX10_isDigit_1 : decode cX10_isDigit 1 = .ok (.bipush 48, 2) := by decide +kernel
theorem dX10_isDigit_3 : decode cX10_isDigit 3 = .ok (.if_icmp .lt 13, 3) := by decide +kernel
theorem dX10_isDigit_6 : decode cX10_isDigit 6 = .ok (.iload_n 0, 1) := by decide +kernel
theorem dX10_isDigit_7 : decode cX10_isDigit 7 = .ok (.bipush 57, 2) := by decide +kernel
theorem dX10_isDigit_9 : decode cX10_isDigit 9 = .ok (.if_icmp .gt 7, 3) := by decide +kernel
theorem dX10_isDigit_12 : decode cX10_isDigit 12 = .ok (.iconst 1, 1) := by decide +kernel
theorem dX10_isDigit_13 : decode cX10_isDigit 13 = .ok (.goto 4, 3) := by decide +kernel
theorem dX10_isDigit_16 : decode cX10_isDigit 16 = .ok (.iconst 0, 1) := by decide +kernel
theorem dX10_isDigit_17 : decode cX10_isDigit 17 = .ok (.ireturn, 1) := by decide +kernel
theorem dX10_isRowByte_0 : decode cX10_isRowByte 0 = .ok (.iload_n 0, 1) := by decide +kernel
theorem dX10_isRowByte_1 : decode cX10_isRowByte 1 = .ok (.invokestatic 86, 3) := by decide +kernel
theorem dX10_isRowByte_4 : decode cX10_isRowByte 4 = .ok (.ifCond .ne 16, 3) := by decide +kernel
theorem dX10_isRowByte_7 : decode cX10_isRowByte 7 = .ok (.iload_n 0, 1) := by decide +kernel
theorem dX10_isRowByte_8 : decode cX10_isRowByte 8 = .ok (.invokestatic 72, 3) := by decide +kernel
theorem dX10_isRowByte_11 : decode cX10_isRowByte 11 = .ok (.ifCond .ne 9, 3) := by decide +kernel
theorem dX10_isRowByte_14 : decode cX10_isRowByte 14 = .ok (.iload_n 0, 1) := by decide +kernel
theorem dX10_isRowByte_15 : decode cX10_isRowByte 15 = .ok (.bipush 95, 2) := by decide +kernel
theorem dX10_isRowByte_17 : decode cX10_isRowByte 17 = .ok (.if_icmp .ne 7, 3) := by decide +kernel
theorem dX10_isRowByte_20 : decode cX10_isRowByte 20 = .ok (.iconst 1, 1) := by decide +kernel
theorem dX10_isRowByte_21 : decode cX10_isRowByte 21 = .ok (.goto 4, 3) := by decide +kernel
theorem dX10_isRowByte_24 : decode cX10_isRowByte 24 = .ok (.iconst 0, 1) := by decide +kernel
theorem dX10_isRowByte_25 : decode cX10_isRowByte 25 = .ok (.ireturn, 1) := by decide +kernel
theorem dX10_rowEnd_0 : decode cX10_rowEnd 0 = .ok (.iload_n 1, 1) := by decide +kernel
theorem dX10_rowEnd_1 : decode cX10_rowEnd 1 = .ok (.istore_n 2, 1) := by decide +kernel
theorem dX10_rowEnd_2 : decode cX10_rowEnd 2 = .ok (.iload_n 2, 1) := by decide +kernel
theorem dX10_rowEnd_3 : decode cX10_rowEnd 3 = .ok (.aload_n 0, 1) := by decide +kernel
theorem dX10_rowEnd_4 : decode cX10_rowEnd 4 = .ok (.getfield 29, 3) := by decide +kernel
theorem dX10_rowEnd_7 : decode cX10_rowEnd 7 = .ok (.if_icmp .ge 21, 3) := by decide +kernel
theorem dX10_rowEnd_10 : decode cX10_rowEnd 10 = .ok (.aload_n 0, 1) := by decide +kernel
theorem dX10_rowEnd_11 : decode cX10_rowEnd 11 = .ok (.getfield 9, 3) := by decide +kernel
theorem dX10_rowEnd_14 : decode cX10_rowEnd 14 = .ok (.iload_n 2, 1) := by decide +kernel
theorem dX10_rowEnd_15 : decode cX10_rowEnd 15 = .ok (.baload, 1) := by decide +kernel
theorem dX10_rowEnd_16 : decode cX10_rowEnd 16 = .ok (.invokestatic 44, 3) := by decide +kernel
theorem dX10_rowEnd_19 : decode cX10_rowEnd 19 = .ok (.ifCond .eq 9, 3) := by decide +kernel
theorem dX10_rowEnd_22 : decode cX10_rowEnd 22 = .ok (.iinc 2 1, 3) := by decide +kernel
theorem dX10_rowEnd_25 : decode cX10_rowEnd 25 = .ok (.goto (-23), 3) := by decide +kernel
theorem dX10_rowEnd_28 : decode cX10_rowEnd 28 = .ok (.iload_n 2, 1) := by decide +kernel
theorem dX10_rowEnd_29 : decode cX10_rowEnd 29 = .ok (.ireturn, 1) := by decide +kernel
theorem dX10_digitValue_0 : decode cX10_digitValue 0 = .ok (.iload_n 0, 1) := by decide +kernel
theorem dX10_digitValue_1 : decode cX10_digitValue 1 = .ok (.bipush 48, 2) := by decide +kernel
theorem dX10_digitValue_3 : decode cX10_digitValue 3 = .ok (.if_icmp .lt 14, 3) := by decide +kernel
theorem dX10_digitValue_6 : decode cX10_digitValue 6 = .ok (.iload_n 0, 1) := by decide +kernel
theorem dX10_digitValue_7 : decode cX10_digitValue 7 = .ok (.bipush 57, 2) := by decide +kernel
theorem dX10_digitValue_9 : decode cX10_digitValue 9 = .ok (.if_icmp .gt 8, 3) := by decide +kernel
theorem dX10_digitValue_12 : decode cX10_digitValue 12 = .ok (.iload_n 0, 1) := by decide +kernel
theorem dX10_digitValue_13 : decode cX10_digitValue 13 = .ok (.bipush 48, 2) := by decide +kernel
theorem dX10_digitValue_15 : decode cX10_digitValue 15 = .ok (.isub, 1) := by decide +kernel
theorem dX10_digitValue_16 : decode cX10_digitValue 16 = .ok (.ireturn, 1) := by decide +kernel
theorem dX10_digitValue_17 : decode cX10_digitValue 17 = .ok (.iload_n 0, 1) := by decide +kernel
theorem dX10_digitValue_18 : decode cX10_digitValue 18 = .ok (.bipush 97, 2) := by decide +kernel
theorem dX10_digitValue_20 : decode cX10_digitValue 20 = .ok (.if_icmp .lt 17, 3) := by decide +kernel
theorem dX10_digitValue_23 : decode cX10_digitValue 23 = .ok (.iload_n 0, 1) := by decide +kernel
theorem dX10_digitValue_24 : decode cX10_digitValue 24 = .ok (.bipush 102, 2) := by decide +kernel
theorem dX10_digitValue_26 : decode cX10_digitValue 26 = .ok (.if_icmp .gt 11, 3) := by decide +kernel
theorem dX10_digitValue_29 : decode cX10_digitValue 29 = .ok (.iload_n 0, 1) := by decide +kernel
theorem dX10_digitValue_30 : decode cX10_digitValue 30 = .ok (.bipush 97, 2) := by decide +kernel
theorem dX10_digitValue_32 : decode cX10_digitValue 32 = .ok (.isub, 1) := by decide +kernel
theorem dX10_digitValue_33 : decode cX10_digitValue 33 = .ok (.bipush 10, 2) := by decide +kernel
theorem dX10_digitValue_35 : decode cX10_digitValue 35 = .ok (.iadd, 1) := by decide +kernel
theorem dX10_digitValue_36 : decode cX10_digitValue 36 = .ok (.ireturn, 1) := by decide +kernel
theorem dX10_digitValue_37 : decode cX10_digitValue 37 = .ok (.iload_n 0, 1) := by decide +kernel
theorem dX10_digitValue_38 : decode cX10_digitValue 38 = .ok (.bipush 65, 2) := by decide +kernel
theorem dX10_digitValue_40 : decode cX10_digitValue 40 = .ok (.if_icmp .lt 19, 3) := by decide +kernel
theorem dX10_digitValue_43 : decode cX10_digitValue 43 = .ok (.iload_n 0, 1) := by decide +kernel
theorem dX10_digitValue_44 : decode cX10_digitValue 44 = .ok (.bipush 70, 2) := by decide +kernel
theorem dX10_digitValue_46 : decode cX10_digitValue 46 = .ok (.if_icmp .gt 13, 3) := by decide +kernel
theorem dX10_digitValue_49 : decode cX10_digitValue 49 = .ok (.iload_n 0, 1) := by decide +kernel
theorem dX10_digitValue_50 : decode cX10_digitValue 50 = .ok (.bipush 65, 2) := by decide +kernel
theorem dX10_digitValue_52 : decode cX10_digitValue 52 = .ok (.isub, 1) := by decide +kernel
theorem dX10_digitValue_53 : decode cX10_digitValue 53 = .ok (.bipush 10, 2) := by decide +kernel
theorem dX10_digitValue_55 : decode cX10_digitValue 55 = .ok (.iadd, 1) := by decide +kernel
theorem dX10_digitValue_56 : decode cX10_digitValue 56 = .ok (.goto 5, 3) := by decide +kernel
theorem dX10_digitValue_59 : decode cX10_digitValue 59 = .ok (.bipush 16, 2) := by decide +kernel
theorem dX10_digitValue_61 : decode cX10_digitValue 61 = .ok (.ireturn, 1) := by decide +kernel
theorem dX10_valueOf_0 : decode cX10_valueOf 0 = .ok (.iload_n 2, 1) := by decide +kernel
theorem dX10_valueOf_1 : decode cX10_valueOf 1 = .ok (.iload_n 1, 1) := by decide +kernel
theorem dX10_valueOf_2 : decode cX10_valueOf 2 = .ok (.isub, 1) := by decide +kernel
theorem dX10_valueOf_3 : decode cX10_valueOf 3 = .ok (.iload 4, 2) := by decide +kernel
theorem dX10_valueOf_5 : decode cX10_valueOf 5 = .ok (.if_icmp .le 7, 3) := by decide +kernel
theorem dX10_valueOf_8 : decode cX10_valueOf 8 = .ok (.ldc2_w 75, 3) := by decide +kernel
theorem dX10_valueOf_11 : decode cX10_valueOf 11 = .ok (.lreturn, 1) := by decide +kernel
theorem dX10_valueOf_12 : decode cX10_valueOf 12 = .ok (.lconst 0, 1) := by decide +kernel
theorem dX10_valueOf_13 : decode cX10_valueOf 13 = .ok (.lstore 5, 2) := by decide +kernel
theorem dX10_valueOf_15 : decode cX10_valueOf 15 = .ok (.iload_n 1, 1) := by decide +kernel
theorem dX10_valueOf_16 : decode cX10_valueOf 16 = .ok (.istore 7, 2) := by decide +kernel
theorem dX10_valueOf_18 : decode cX10_valueOf 18 = .ok (.iload 7, 2) := by decide +kernel
theorem dX10_valueOf_20 : decode cX10_valueOf 20 = .ok (.iload_n 2, 1) := by decide +kernel
theorem dX10_valueOf_21 : decode cX10_valueOf 21 = .ok (.if_icmp .ge 42, 3) := by decide +kernel
theorem dX10_valueOf_24 : decode cX10_valueOf 24 = .ok (.aload_n 0, 1) := by decide +kernel
theorem dX10_valueOf_25 : decode cX10_valueOf 25 = .ok (.getfield 9, 3) := by decide +kernel
theorem dX10_valueOf_28 : decode cX10_valueOf 28 = .ok (.iload 7, 2) := by decide +kernel
theorem dX10_valueOf_30 : decode cX10_valueOf 30 = .ok (.baload, 1) := by decide +kernel
theorem dX10_valueOf_31 : decode cX10_valueOf 31 = .ok (.invokestatic 81, 3) := by decide +kernel
theorem dX10_valueOf_34 : decode cX10_valueOf 34 = .ok (.istore 8, 2) := by decide +kernel
theorem dX10_valueOf_36 : decode cX10_valueOf 36 = .ok (.iload 8, 2) := by decide +kernel
theorem dX10_valueOf_38 : decode cX10_valueOf 38 = .ok (.iload_n 3, 1) := by decide +kernel
theorem dX10_valueOf_39 : decode cX10_valueOf 39 = .ok (.if_icmp .lt 7, 3) := by decide +kernel
theorem dX10_valueOf_42 : decode cX10_valueOf 42 = .ok (.ldc2_w 75, 3) := by decide +kernel
theorem dX10_valueOf_45 : decode cX10_valueOf 45 = .ok (.lreturn, 1) := by decide +kernel
theorem dX10_valueOf_46 : decode cX10_valueOf 46 = .ok (.lload 5, 2) := by decide +kernel
theorem dX10_valueOf_48 : decode cX10_valueOf 48 = .ok (.iload_n 3, 1) := by decide +kernel
theorem dX10_valueOf_49 : decode cX10_valueOf 49 = .ok (.i2l, 1) := by decide +kernel
theorem dX10_valueOf_50 : decode cX10_valueOf 50 = .ok (.lmul, 1) := by decide +kernel
theorem dX10_valueOf_51 : decode cX10_valueOf 51 = .ok (.iload 8, 2) := by decide +kernel
theorem dX10_valueOf_53 : decode cX10_valueOf 53 = .ok (.i2l, 1) := by decide +kernel
theorem dX10_valueOf_54 : decode cX10_valueOf 54 = .ok (.ladd, 1) := by decide +kernel
theorem dX10_valueOf_55 : decode cX10_valueOf 55 = .ok (.lstore 5, 2) := by decide +kernel
theorem dX10_valueOf_57 : decode cX10_valueOf 57 = .ok (.iinc 7 1, 3) := by decide +kernel
theorem dX10_valueOf_60 : decode cX10_valueOf 60 = .ok (.goto (-42), 3) := by decide +kernel
theorem dX10_valueOf_63 : decode cX10_valueOf 63 = .ok (.lload 5, 2) := by decide +kernel
theorem dX10_valueOf_65 : decode cX10_valueOf 65 = .ok (.ldc2_w 84, 3) := by decide +kernel
theorem dX10_valueOf_68 : decode cX10_valueOf 68 = .ok (.lcmp, 1) := by decide +kernel
theorem dX10_valueOf_69 : decode cX10_valueOf 69 = .ok (.ifCond .ge 8, 3) := by decide +kernel
theorem dX10_valueOf_72 : decode cX10_valueOf 72 = .ok (.lload 5, 2) := by decide +kernel
theorem dX10_valueOf_74 : decode cX10_valueOf 74 = .ok (.goto 6, 3) := by decide +kernel
theorem dX10_valueOf_77 : decode cX10_valueOf 77 = .ok (.ldc2_w 75, 3) := by decide +kernel
theorem dX10_valueOf_80 : decode cX10_valueOf 80 = .ok (.lreturn, 1) := by decide +kernel
theorem dX10_addRow_0 : decode cX10_addRow 0 = .ok (.aload_n 0, 1) := by decide +kernel
theorem dX10_addRow_1 : decode cX10_addRow 1 = .ok (.getfield 9, 3) := by decide +kernel
theorem dX10_addRow_4 : decode cX10_addRow 4 = .ok (.iload_n 1, 1) := by decide +kernel
theorem dX10_addRow_5 : decode cX10_addRow 5 = .ok (.baload, 1) := by decide +kernel
theorem dX10_addRow_6 : decode cX10_addRow 6 = .ok (.invokestatic 72, 3) := by decide +kernel
theorem dX10_addRow_9 : decode cX10_addRow 9 = .ok (.ifCond .ne 26, 3) := by decide +kernel
theorem dX10_addRow_12 : decode cX10_addRow 12 = .ok (.aload_n 0, 1) := by decide +kernel
theorem dX10_addRow_13 : decode cX10_addRow 13 = .ok (.iload_n 2, 1) := by decide +kernel
theorem dX10_addRow_14 : decode cX10_addRow 14 = .ok (.iload_n 1, 1) := by decide +kernel
theorem dX10_addRow_15 : decode cX10_addRow 15 = .ok (.isub, 1) := by decide +kernel
theorem dX10_addRow_16 : decode cX10_addRow 16 = .ok (.bipush 20, 2) := by decide +kernel
theorem dX10_addRow_18 : decode cX10_addRow 18 = .ok (.if_icmp .gt 7, 3) := by decide +kernel
theorem dX10_addRow_21 : decode cX10_addRow 21 = .ok (.iconst 1, 1) := by decide +kernel
theorem dX10_addRow_22 : decode cX10_addRow 22 = .ok (.goto 4, 3) := by decide +kernel
theorem dX10_addRow_25 : decode cX10_addRow 25 = .ok (.iconst 0, 1) := by decide +kernel
theorem dX10_addRow_26 : decode cX10_addRow 26 = .ok (.iload_n 1, 1) := by decide +kernel
theorem dX10_addRow_27 : decode cX10_addRow 27 = .ok (.iload_n 2, 1) := by decide +kernel
theorem dX10_addRow_28 : decode cX10_addRow 28 = .ok (.ldc2_w 75, 3) := by decide +kernel
theorem dX10_addRow_31 : decode cX10_addRow 31 = .ok (.invokevirtual 55, 3) := by decide +kernel
theorem dX10_addRow_34 : decode cX10_addRow 34 = .ok (.return_, 1) := by decide +kernel
theorem dX10_addRow_35 : decode cX10_addRow 35 = .ok (.iload_n 2, 1) := by decide +kernel
theorem dX10_addRow_36 : decode cX10_addRow 36 = .ok (.iload_n 1, 1) := by decide +kernel
theorem dX10_addRow_37 : decode cX10_addRow 37 = .ok (.isub, 1) := by decide +kernel
theorem dX10_addRow_38 : decode cX10_addRow 38 = .ok (.iconst 2, 1) := by decide +kernel
theorem dX10_addRow_39 : decode cX10_addRow 39 = .ok (.if_icmp .le 31, 3) := by decide +kernel
theorem dX10_addRow_42 : decode cX10_addRow 42 = .ok (.aload_n 0, 1) := by decide +kernel
theorem dX10_addRow_43 : decode cX10_addRow 43 = .ok (.getfield 9, 3) := by decide +kernel
theorem dX10_addRow_46 : decode cX10_addRow 46 = .ok (.iload_n 1, 1) := by decide +kernel
theorem dX10_addRow_47 : decode cX10_addRow 47 = .ok (.baload, 1) := by decide +kernel
theorem dX10_addRow_48 : decode cX10_addRow 48 = .ok (.bipush 48, 2) := by decide +kernel
theorem dX10_addRow_50 : decode cX10_addRow 50 = .ok (.if_icmp .ne 20, 3) := by decide +kernel
theorem dX10_addRow_53 : decode cX10_addRow 53 = .ok (.aload_n 0, 1) := by decide +kernel
theorem dX10_addRow_54 : decode cX10_addRow 54 = .ok (.getfield 9, 3) := by decide +kernel
theorem dX10_addRow_57 : decode cX10_addRow 57 = .ok (.iload_n 1, 1) := by decide +kernel
theorem dX10_addRow_58 : decode cX10_addRow 58 = .ok (.iconst 1, 1) := by decide +kernel
theorem dX10_addRow_59 : decode cX10_addRow 59 = .ok (.iadd, 1) := by decide +kernel
theorem dX10_addRow_60 : decode cX10_addRow 60 = .ok (.baload, 1) := by decide +kernel
theorem dX10_addRow_61 : decode cX10_addRow 61 = .ok (.bipush 120, 2) := by decide +kernel
theorem dX10_addRow_63 : decode cX10_addRow 63 = .ok (.if_icmp .ne 7, 3) := by decide +kernel
theorem dX10_addRow_66 : decode cX10_addRow 66 = .ok (.iconst 1, 1) := by decide +kernel
theorem dX10_addRow_67 : decode cX10_addRow 67 = .ok (.goto 4, 3) := by decide +kernel
theorem dX10_addRow_70 : decode cX10_addRow 70 = .ok (.iconst 0, 1) := by decide +kernel
theorem dX10_addRow_71 : decode cX10_addRow 71 = .ok (.istore_n 3, 1) := by decide +kernel
theorem dX10_addRow_72 : decode cX10_addRow 72 = .ok (.iload_n 3, 1) := by decide +kernel
theorem dX10_addRow_73 : decode cX10_addRow 73 = .ok (.ifCond .eq 18, 3) := by decide +kernel
theorem dX10_addRow_76 : decode cX10_addRow 76 = .ok (.aload_n 0, 1) := by decide +kernel
theorem dX10_addRow_77 : decode cX10_addRow 77 = .ok (.iload_n 1, 1) := by decide +kernel
theorem dX10_addRow_78 : decode cX10_addRow 78 = .ok (.iconst 2, 1) := by decide +kernel
theorem dX10_addRow_79 : decode cX10_addRow 79 = .ok (.iadd, 1) := by decide +kernel
theorem dX10_addRow_80 : decode cX10_addRow 80 = .ok (.iload_n 2, 1) := by decide +kernel
theorem dX10_addRow_81 : decode cX10_addRow 81 = .ok (.bipush 16, 2) := by decide +kernel
theorem dX10_addRow_83 : decode cX10_addRow 83 = .ok (.bipush 8, 2) := by decide +kernel
theorem dX10_addRow_85 : decode cX10_addRow 85 = .ok (.invokevirtual 77, 3) := by decide +kernel
theorem dX10_addRow_88 : decode cX10_addRow 88 = .ok (.goto 13, 3) := by decide +kernel
theorem dX10_addRow_91 : decode cX10_addRow 91 = .ok (.aload_n 0, 1) := by decide +kernel
theorem dX10_addRow_92 : decode cX10_addRow 92 = .ok (.iload_n 1, 1) := by decide +kernel
theorem dX10_addRow_93 : decode cX10_addRow 93 = .ok (.iload_n 2, 1) := by decide +kernel
theorem dX10_addRow_94 : decode cX10_addRow 94 = .ok (.bipush 10, 2) := by decide +kernel
theorem dX10_addRow_96 : decode cX10_addRow 96 = .ok (.bipush 10, 2) := by decide +kernel
theorem dX10_addRow_98 : decode cX10_addRow 98 = .ok (.invokevirtual 77, 3) := by decide +kernel
theorem dX10_addRow_101 : decode cX10_addRow 101 = .ok (.lstore 4, 2) := by decide +kernel
theorem dX10_addRow_103 : decode cX10_addRow 103 = .ok (.aload_n 0, 1) := by decide +kernel
theorem dX10_addRow_104 : decode cX10_addRow 104 = .ok (.lload 4, 2) := by decide +kernel
theorem dX10_addRow_106 : decode cX10_addRow 106 = .ok (.lconst 0, 1) := by decide +kernel
theorem dX10_addRow_107 : decode cX10_addRow 107 = .ok (.lcmp, 1) := by decide +kernel
theorem dX10_addRow_108 : decode cX10_addRow 108 = .ok (.ifCond .ge 7, 3) := by decide +kernel
theorem dX10_addRow_111 : decode cX10_addRow 111 = .ok (.iconst 0, 1) := by decide +kernel
theorem dX10_addRow_112 : decode cX10_addRow 112 = .ok (.goto 4, 3) := by decide +kernel
theorem dX10_addRow_115 : decode cX10_addRow 115 = .ok (.iconst 2, 1) := by decide +kernel
theorem dX10_addRow_116 : decode cX10_addRow 116 = .ok (.iload_n 1, 1) := by decide +kernel
theorem dX10_addRow_117 : decode cX10_addRow 117 = .ok (.iload_n 2, 1) := by decide +kernel
theorem dX10_addRow_118 : decode cX10_addRow 118 = .ok (.lload 4, 2) := by decide +kernel
theorem dX10_addRow_120 : decode cX10_addRow 120 = .ok (.invokevirtual 55, 3) := by decide +kernel
theorem dX10_addRow_123 : decode cX10_addRow 123 = .ok (.return_, 1) := by decide +kernel
theorem dX10_isSign_0 : decode cX10_isSign 0 = .ok (.aload_n 0, 1) := by decide +kernel
theorem dX10_isSign_1 : decode cX10_isSign 1 = .ok (.getfield 15, 3) := by decide +kernel
theorem dX10_isSign_4 : decode cX10_isSign 4 = .ok (.iload_n 1, 1) := by decide +kernel
theorem dX10_isSign_5 : decode cX10_isSign 5 = .ok (.baload, 1) := by decide +kernel
theorem dX10_isSign_6 : decode cX10_isSign 6 = .ok (.iconst 3, 1) := by decide +kernel
theorem dX10_isSign_7 : decode cX10_isSign 7 = .ok (.if_icmp .ne 19, 3) := by decide +kernel
theorem dX10_isSign_10 : decode cX10_isSign 10 = .ok (.aload_n 0, 1) := by decide +kernel
theorem dX10_isSign_11 : decode cX10_isSign 11 = .ok (.getfield 25, 3) := by decide +kernel
theorem dX10_isSign_14 : decode cX10_isSign 14 = .ok (.iload_n 1, 1) := by decide +kernel
theorem dX10_isSign_15 : decode cX10_isSign 15 = .ok (.laload, 1) := by decide +kernel
theorem dX10_isSign_16 : decode cX10_isSign 16 = .ok (.iload_n 2, 1) := by decide +kernel
theorem dX10_isSign_17 : decode cX10_isSign 17 = .ok (.i2l, 1) := by decide +kernel
theorem dX10_isSign_18 : decode cX10_isSign 18 = .ok (.lcmp, 1) := by decide +kernel
theorem dX10_isSign_19 : decode cX10_isSign 19 = .ok (.ifCond .ne 7, 3) := by decide +kernel
theorem dX10_isSign_22 : decode cX10_isSign 22 = .ok (.iconst 1, 1) := by decide +kernel
theorem dX10_isSign_23 : decode cX10_isSign 23 = .ok (.goto 4, 3) := by decide +kernel
theorem dX10_isSign_26 : decode cX10_isSign 26 = .ok (.iconst 0, 1) := by decide +kernel
theorem dX10_isSign_27 : decode cX10_isSign 27 = .ok (.ireturn, 1) := by decide +kernel
theorem dX10_isLineEnd_0 : decode cX10_isLineEnd 0 = .ok (.aload_n 0, 1) := by decide +kernel
theorem dX10_isLineEnd_1 : decode cX10_isLineEnd 1 = .ok (.getfield 15, 3) := by decide +kernel
theorem dX10_isLineEnd_4 : decode cX10_isLineEnd 4 = .ok (.iload_n 1, 1) := by decide +kernel
theorem dX10_isLineEnd_5 : decode cX10_isLineEnd 5 = .ok (.baload, 1) := by decide +kernel
theorem dX10_isLineEnd_6 : decode cX10_isLineEnd 6 = .ok (.iconst 4, 1) := by decide +kernel
theorem dX10_isLineEnd_7 : decode cX10_isLineEnd 7 = .ok (.if_icmp .eq 13, 3) := by decide +kernel
theorem dX10_isLineEnd_10 : decode cX10_isLineEnd 10 = .ok (.aload_n 0, 1) := by decide +kernel
theorem dX10_isLineEnd_11 : decode cX10_isLineEnd 11 = .ok (.getfield 15, 3) := by decide +kernel
theorem dX10_isLineEnd_14 : decode cX10_isLineEnd 14 = .ok (.iload_n 1, 1) := by decide +kernel
theorem dX10_isLineEnd_15 : decode cX10_isLineEnd 15 = .ok (.baload, 1) := by decide +kernel
theorem dX10_isLineEnd_16 : decode cX10_isLineEnd 16 = .ok (.iconst 5, 1) := by decide +kernel
theorem dX10_isLineEnd_17 : decode cX10_isLineEnd 17 = .ok (.if_icmp .ne 7, 3) := by decide +kernel
theorem dX10_isLineEnd_20 : decode cX10_isLineEnd 20 = .ok (.iconst 1, 1) := by decide +kernel
theorem dX10_isLineEnd_21 : decode cX10_isLineEnd 21 = .ok (.goto 4, 3) := by decide +kernel
theorem dX10_isLineEnd_24 : decode cX10_isLineEnd 24 = .ok (.iconst 0, 1) := by decide +kernel
theorem dX10_isLineEnd_25 : decode cX10_isLineEnd 25 = .ok (.ireturn, 1) := by decide +kernel
theorem dX10_isSame_0 : decode cX10_isSame 0 = .ok (.aload_n 0, 1) := by decide +kernel
theorem dX10_isSame_1 : decode cX10_isSame 1 = .ok (.getfield 22, 3) := by decide +kernel
theorem dX10_isSame_4 : decode cX10_isSame 4 = .ok (.iload_n 1, 1) := by decide +kernel
theorem dX10_isSame_5 : decode cX10_isSame 5 = .ok (.iaload, 1) := by decide +kernel
theorem dX10_isSame_6 : decode cX10_isSame 6 = .ok (.aload_n 0, 1) := by decide +kernel
theorem dX10_isSame_7 : decode cX10_isSame 7 = .ok (.getfield 18, 3) := by decide +kernel
theorem dX10_isSame_10 : decode cX10_isSame 10 = .ok (.iload_n 1, 1) := by decide +kernel
theorem dX10_isSame_11 : decode cX10_isSame 11 = .ok (.iaload, 1) := by decide +kernel
theorem dX10_isSame_12 : decode cX10_isSame 12 = .ok (.isub, 1) := by decide +kernel
theorem dX10_isSame_13 : decode cX10_isSame 13 = .ok (.istore_n 3, 1) := by decide +kernel
theorem dX10_isSame_14 : decode cX10_isSame 14 = .ok (.iload_n 3, 1) := by decide +kernel
theorem dX10_isSame_15 : decode cX10_isSame 15 = .ok (.aload_n 0, 1) := by decide +kernel
theorem dX10_isSame_16 : decode cX10_isSame 16 = .ok (.getfield 22, 3) := by decide +kernel
theorem dX10_isSame_19 : decode cX10_isSame 19 = .ok (.iload_n 2, 1) := by decide +kernel
theorem dX10_isSame_20 : decode cX10_isSame 20 = .ok (.iaload, 1) := by decide +kernel
theorem dX10_isSame_21 : decode cX10_isSame 21 = .ok (.aload_n 0, 1) := by decide +kernel
theorem dX10_isSame_22 : decode cX10_isSame 22 = .ok (.getfield 18, 3) := by decide +kernel
theorem dX10_isSame_25 : decode cX10_isSame 25 = .ok (.iload_n 2, 1) := by decide +kernel
theorem dX10_isSame_26 : decode cX10_isSame 26 = .ok (.iaload, 1) := by decide +kernel
theorem dX10_isSame_27 : decode cX10_isSame 27 = .ok (.isub, 1) := by decide +kernel
theorem dX10_isSame_28 : decode cX10_isSame 28 = .ok (.if_icmp .eq 5, 3) := by decide +kernel
theorem dX10_isSame_31 : decode cX10_isSame 31 = .ok (.iconst 0, 1) := by decide +kernel
theorem dX10_isSame_32 : decode cX10_isSame 32 = .ok (.ireturn, 1) := by decide +kernel
theorem dX10_isSame_33 : decode cX10_isSame 33 = .ok (.iconst 0, 1) := by decide +kernel
theorem dX10_isSame_34 : decode cX10_isSame 34 = .ok (.istore 4, 2) := by decide +kernel
theorem dX10_isSame_36 : decode cX10_isSame 36 = .ok (.iload 4, 2) := by decide +kernel
theorem dX10_isSame_38 : decode cX10_isSame 38 = .ok (.iload_n 3, 1) := by decide +kernel
theorem dX10_isSame_39 : decode cX10_isSame 39 = .ok (.if_icmp .ge 42, 3) := by decide +kernel
theorem dX10_isSame_42 : decode cX10_isSame 42 = .ok (.aload_n 0, 1) := by decide +kernel
theorem dX10_isSame_43 : decode cX10_isSame 43 = .ok (.getfield 9, 3) := by decide +kernel
theorem dX10_isSame_46 : decode cX10_isSame 46 = .ok (.aload_n 0, 1) := by decide +kernel
theorem dX10_isSame_47 : decode cX10_isSame 47 = .ok (.getfield 18, 3) := by decide +kernel
theorem dX10_isSame_50 : decode cX10_isSame 50 = .ok (.iload_n 1, 1) := by decide +kernel
theorem dX10_isSame_51 : decode cX10_isSame 51 = .ok (.iaload, 1) := by decide +kernel
theorem dX10_isSame_52 : decode cX10_isSame 52 = .ok (.iload 4, 2) := by decide +kernel
theorem dX10_isSame_54 : decode cX10_isSame 54 = .ok (.iadd, 1) := by decide +kernel
theorem dX10_isSame_55 : decode cX10_isSame 55 = .ok (.baload, 1) := by decide +kernel
theorem dX10_isSame_56 : decode cX10_isSame 56 = .ok (.aload_n 0, 1) := by decide +kernel
theorem dX10_isSame_57 : decode cX10_isSame 57 = .ok (.getfield 9, 3) := by decide +kernel
theorem dX10_isSame_60 : decode cX10_isSame 60 = .ok (.aload_n 0, 1) := by decide +kernel
theorem dX10_isSame_61 : decode cX10_isSame 61 = .ok (.getfield 18, 3) := by decide +kernel
theorem dX10_isSame_64 : decode cX10_isSame 64 = .ok (.iload_n 2, 1) := by decide +kernel
theorem dX10_isSame_65 : decode cX10_isSame 65 = .ok (.iaload, 1) := by decide +kernel
theorem dX10_isSame_66 : decode cX10_isSame 66 = .ok (.iload 4, 2) := by decide +kernel
theorem dX10_isSame_68 : decode cX10_isSame 68 = .ok (.iadd, 1) := by decide +kernel
theorem dX10_isSame_69 : decode cX10_isSame 69 = .ok (.baload, 1) := by decide +kernel
theorem dX10_isSame_70 : decode cX10_isSame 70 = .ok (.if_icmp .eq 5, 3) := by decide +kernel
theorem dX10_isSame_73 : decode cX10_isSame 73 = .ok (.iconst 0, 1) := by decide +kernel
theorem dX10_isSame_74 : decode cX10_isSame 74 = .ok (.ireturn, 1) := by decide +kernel
theorem dX10_isSame_75 : decode cX10_isSame 75 = .ok (.iinc 4 1, 3) := by decide +kernel
theorem dX10_isSame_78 : decode cX10_isSame 78 = .ok (.goto (-42), 3) := by decide +kernel
theorem dX10_isSame_81 : decode cX10_isSame 81 = .ok (.iconst 1, 1) := by decide +kernel
theorem dX10_isSame_82 : decode cX10_isSame 82 = .ok (.ireturn, 1) := by decide +kernel
theorem dX10_hash_0 : decode cX10_hash 0 = .ok (.iconst 0, 1) := by decide +kernel
theorem dX10_hash_1 : decode cX10_hash 1 = .ok (.istore_n 2, 1) := by decide +kernel
theorem dX10_hash_2 : decode cX10_hash 2 = .ok (.aload_n 0, 1) := by decide +kernel
theorem dX10_hash_3 : decode cX10_hash 3 = .ok (.getfield 18, 3) := by decide +kernel
theorem dX10_hash_6 : decode cX10_hash 6 = .ok (.iload_n 1, 1) := by decide +kernel
theorem dX10_hash_7 : decode cX10_hash 7 = .ok (.iaload, 1) := by decide +kernel
theorem dX10_hash_8 : decode cX10_hash 8 = .ok (.istore_n 3, 1) := by decide +kernel
theorem dX10_hash_9 : decode cX10_hash 9 = .ok (.iload_n 3, 1) := by decide +kernel
theorem dX10_hash_10 : decode cX10_hash 10 = .ok (.aload_n 0, 1) := by decide +kernel
theorem dX10_hash_11 : decode cX10_hash 11 = .ok (.getfield 22, 3) := by decide +kernel
theorem dX10_hash_14 : decode cX10_hash 14 = .ok (.iload_n 1, 1) := by decide +kernel
theorem dX10_hash_15 : decode cX10_hash 15 = .ok (.iaload, 1) := by decide +kernel
theorem dX10_hash_16 : decode cX10_hash 16 = .ok (.if_icmp .ge 21, 3) := by decide +kernel
theorem dX10_hash_19 : decode cX10_hash 19 = .ok (.iload_n 2, 1) := by decide +kernel
theorem dX10_hash_20 : decode cX10_hash 20 = .ok (.bipush 31, 2) := by decide +kernel
theorem dX10_hash_22 : decode cX10_hash 22 = .ok (.imul, 1) := by decide +kernel
theorem dX10_hash_23 : decode cX10_hash 23 = .ok (.aload_n 0, 1) := by decide +kernel
theorem dX10_hash_24 : decode cX10_hash 24 = .ok (.getfield 9, 3) := by decide +kernel
theorem dX10_hash_27 : decode cX10_hash 27 = .ok (.iload_n 3, 1) := by decide +kernel
theorem dX10_hash_28 : decode cX10_hash 28 = .ok (.baload, 1) := by decide +kernel
theorem dX10_hash_29 : decode cX10_hash 29 = .ok (.iadd, 1) := by decide +kernel
theorem dX10_hash_30 : decode cX10_hash 30 = .ok (.istore_n 2, 1) := by decide +kernel
theorem dX10_hash_31 : decode cX10_hash 31 = .ok (.iinc 3 1, 3) := by decide +kernel
theorem dX10_hash_34 : decode cX10_hash 34 = .ok (.goto (-25), 3) := by decide +kernel
theorem dX10_hash_37 : decode cX10_hash 37 = .ok (.iload_n 2, 1) := by decide +kernel
theorem dX10_hash_38 : decode cX10_hash 38 = .ok (.ireturn, 1) := by decide +kernel
theorem dX10_hasOnlyLetters_0 : decode cX10_hasOnlyLetters 0 = .ok (.aload_n 0, 1) := by decide +kernel
theorem dX10_hasOnlyLetters_1 : decode cX10_hasOnlyLetters 1 = .ok (.getfield 18, 3) := by decide +kernel
theorem dX10_hasOnlyLetters_4 : decode cX10_hasOnlyLetters 4 = .ok (.iload_n 1, 1) := by decide +kernel
theorem dX10_hasOnlyLetters_5 : decode cX10_hasOnlyLetters 5 = .ok (.iaload, 1) := by decide +kernel
theorem dX10_hasOnlyLetters_6 : decode cX10_hasOnlyLetters 6 = .ok (.istore_n 2, 1) := by decide +kernel
theorem dX10_hasOnlyLetters_7 : decode cX10_hasOnlyLetters 7 = .ok (.iload_n 2, 1) := by decide +kernel
theorem dX10_hasOnlyLetters_8 : decode cX10_hasOnlyLetters 8 = .ok (.aload_n 0, 1) := by decide +kernel
theorem dX10_hasOnlyLetters_9 : decode cX10_hasOnlyLetters 9 = .ok (.getfield 22, 3) := by decide +kernel
theorem dX10_hasOnlyLetters_12 : decode cX10_hasOnlyLetters 12 = .ok (.iload_n 1, 1) := by decide +kernel
theorem dX10_hasOnlyLetters_13 : decode cX10_hasOnlyLetters 13 = .ok (.iaload, 1) := by decide +kernel
theorem dX10_hasOnlyLetters_14 : decode cX10_hasOnlyLetters 14 = .ok (.if_icmp .ge 23, 3) := by decide +kernel
theorem dX10_hasOnlyLetters_17 : decode cX10_hasOnlyLetters 17 = .ok (.aload_n 0, 1) := by decide +kernel
theorem dX10_hasOnlyLetters_18 : decode cX10_hasOnlyLetters 18 = .ok (.getfield 9, 3) := by decide +kernel
theorem dX10_hasOnlyLetters_21 : decode cX10_hasOnlyLetters 21 = .ok (.iload_n 2, 1) := by decide +kernel
theorem dX10_hasOnlyLetters_22 : decode cX10_hasOnlyLetters 22 = .ok (.baload, 1) := by decide +kernel
theorem dX10_hasOnlyLetters_23 : decode cX10_hasOnlyLetters 23 = .ok (.invokestatic 86, 3) := by decide +kernel
theorem dX10_hasOnlyLetters_26 : decode cX10_hasOnlyLetters 26 = .ok (.ifCond .ne 5, 3) := by decide +kernel
theorem dX10_hasOnlyLetters_29 : decode cX10_hasOnlyLetters 29 = .ok (.iconst 0, 1) := by decide +kernel
theorem dX10_hasOnlyLetters_30 : decode cX10_hasOnlyLetters 30 = .ok (.ireturn, 1) := by decide +kernel
theorem dX10_hasOnlyLetters_31 : decode cX10_hasOnlyLetters 31 = .ok (.iinc 2 1, 3) := by decide +kernel
theorem dX10_hasOnlyLetters_34 : decode cX10_hasOnlyLetters 34 = .ok (.goto (-27), 3) := by decide +kernel
theorem dX10_hasOnlyLetters_37 : decode cX10_hasOnlyLetters 37 = .ok (.iconst 1, 1) := by decide +kernel
theorem dX10_hasOnlyLetters_38 : decode cX10_hasOnlyLetters 38 = .ok (.ireturn, 1) := by decide +kernel
theorem dX10_hasOnlyBits_0 : decode cX10_hasOnlyBits 0 = .ok (.aload_n 0, 1) := by decide +kernel
theorem dX10_hasOnlyBits_1 : decode cX10_hasOnlyBits 1 = .ok (.getfield 18, 3) := by decide +kernel
theorem dX10_hasOnlyBits_4 : decode cX10_hasOnlyBits 4 = .ok (.iload_n 1, 1) := by decide +kernel
theorem dX10_hasOnlyBits_5 : decode cX10_hasOnlyBits 5 = .ok (.iaload, 1) := by decide +kernel
theorem dX10_hasOnlyBits_6 : decode cX10_hasOnlyBits 6 = .ok (.istore_n 2, 1) := by decide +kernel
theorem dX10_hasOnlyBits_7 : decode cX10_hasOnlyBits 7 = .ok (.iload_n 2, 1) := by decide +kernel
theorem dX10_hasOnlyBits_8 : decode cX10_hasOnlyBits 8 = .ok (.aload_n 0, 1) := by decide +kernel
theorem dX10_hasOnlyBits_9 : decode cX10_hasOnlyBits 9 = .ok (.getfield 22, 3) := by decide +kernel
theorem dX10_hasOnlyBits_12 : decode cX10_hasOnlyBits 12 = .ok (.iload_n 1, 1) := by decide +kernel
theorem dX10_hasOnlyBits_13 : decode cX10_hasOnlyBits 13 = .ok (.iaload, 1) := by decide +kernel
theorem dX10_hasOnlyBits_14 : decode cX10_hasOnlyBits 14 = .ok (.if_icmp .ge 33, 3) := by decide +kernel
theorem dX10_hasOnlyBits_17 : decode cX10_hasOnlyBits 17 = .ok (.aload_n 0, 1) := by decide +kernel
theorem dX10_hasOnlyBits_18 : decode cX10_hasOnlyBits 18 = .ok (.getfield 9, 3) := by decide +kernel
theorem dX10_hasOnlyBits_21 : decode cX10_hasOnlyBits 21 = .ok (.iload_n 2, 1) := by decide +kernel
theorem dX10_hasOnlyBits_22 : decode cX10_hasOnlyBits 22 = .ok (.baload, 1) := by decide +kernel
theorem dX10_hasOnlyBits_23 : decode cX10_hasOnlyBits 23 = .ok (.bipush 48, 2) := by decide +kernel
theorem dX10_hasOnlyBits_25 : decode cX10_hasOnlyBits 25 = .ok (.if_icmp .eq 16, 3) := by decide +kernel
theorem dX10_hasOnlyBits_28 : decode cX10_hasOnlyBits 28 = .ok (.aload_n 0, 1) := by decide +kernel
theorem dX10_hasOnlyBits_29 : decode cX10_hasOnlyBits 29 = .ok (.getfield 9, 3) := by decide +kernel
theorem dX10_hasOnlyBits_32 : decode cX10_hasOnlyBits 32 = .ok (.iload_n 2, 1) := by decide +kernel
theorem dX10_hasOnlyBits_33 : decode cX10_hasOnlyBits 33 = .ok (.baload, 1) := by decide +kernel
theorem dX10_hasOnlyBits_34 : decode cX10_hasOnlyBits 34 = .ok (.bipush 49, 2) := by decide +kernel
theorem dX10_hasOnlyBits_36 : decode cX10_hasOnlyBits 36 = .ok (.if_icmp .eq 5, 3) := by decide +kernel
theorem dX10_hasOnlyBits_39 : decode cX10_hasOnlyBits 39 = .ok (.iconst 0, 1) := by decide +kernel
theorem dX10_hasOnlyBits_40 : decode cX10_hasOnlyBits 40 = .ok (.ireturn, 1) := by decide +kernel
theorem dX10_hasOnlyBits_41 : decode cX10_hasOnlyBits 41 = .ok (.iinc 2 1, 3) := by decide +kernel
theorem dX10_hasOnlyBits_44 : decode cX10_hasOnlyBits 44 = .ok (.goto (-37), 3) := by decide +kernel
theorem dX10_hasOnlyBits_47 : decode cX10_hasOnlyBits 47 = .ok (.iconst 1, 1) := by decide +kernel
theorem dX10_hasOnlyBits_48 : decode cX10_hasOnlyBits 48 = .ok (.ireturn, 1) := by decide +kernel
