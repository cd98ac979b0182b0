theorem dX0_init_0 : decode cX0_init 0 = .ok (.aload_n 0, 1) := by decide +kernel
theorem dX0_init_1 : decode cX0_init 1 = .ok (.invokespecial 3, 3) := by decide +kernel
theorem dX0_init_4 : decode cX0_init 4 = .ok (.aload_n 0, 1) := by decide +kernel
theorem dX0_init_5 : decode cX0_init 5 = .ok (.iconst 5, 1) := by decide +kernel
theorem dX0_init_6 : decode cX0_init 6 = .ok (.newarray .long, 2) := by decide +kernel
theorem dX0_init_8 : decode cX0_init 8 = .ok (.putfield 9, 3) := by decide +kernel
theorem dX0_init_11 : decode cX0_init 11 = .ok (.aload_n 0, 1) := by decide +kernel
theorem dX0_init_12 : decode cX0_init 12 = .ok (.aload_n 1, 1) := by decide +kernel
theorem dX0_init_13 : decode cX0_init 13 = .ok (.putfield 15, 3) := by decide +kernel
theorem dX0_init_16 : decode cX0_init 16 = .ok (.aload_n 0, 1) := by decide +kernel
theorem dX0_init_17 : decode cX0_init 17 = .ok (.aload_n 1, 1) := by decide +kernel
theorem dX0_init_18 : decode cX0_init 18 = .ok (.getfield 19, 3) := by decide +kernel
theorem dX0_init_21 : decode cX0_init 21 = .ok (.putfield 25, 3) := by decide +kernel
theorem dX0_init_24 : decode cX0_init 24 = .ok (.aload_n 0, 1) := by decide +kernel
theorem dX0_init_25 : decode cX0_init 25 = .ok (.aload_n 2, 1) := by decide +kernel
theorem dX0_init_26 : decode cX0_init 26 = .ok (.putfield 26, 3) := by decide +kernel
theorem dX0_init_29 : decode cX0_init 29 = .ok (.return_, 1) := by decide +kernel
theorem dX9_hasFault_0 : decode cX9_hasFault 0 = .ok (.aload_n 0, 1) := by decide +kernel
theorem dX9_hasFault_1 : decode cX9_hasFault 1 = .ok (.getfield 9, 3) := by decide +kernel
theorem dX9_hasFault_4 : decode cX9_hasFault 4 = .ok (.ifCond .eq 7, 3) := by decide +kernel
theorem dX9_hasFault_7 : decode cX9_hasFault 7 = .ok (.iconst 1, 1) := by decide +kernel
theorem dX9_hasFault_8 : decode cX9_hasFault 8 = .ok (.goto 4, 3) := by decide +kernel
theorem dX9_hasFault_11 : decode cX9_hasFault 11 = .ok (.iconst 0, 1) := by decide +kernel
theorem dX9_hasFault_12 : decode cX9_hasFault 12 = .ok (.ireturn, 1) := by decide +kernel
theorem dX5_clear_0 : decode cX5_clear 0 = .ok (.aload_n 0, 1) := by decide +kernel
theorem dX5_clear_1 : decode cX5_clear 1 = .ok (.iconst 0, 1) := by decide +kernel
theorem dX5_clear_2 : decode cX5_clear 2 = .ok (.putfield 23, 3) := by decide +kernel
theorem dX5_clear_5 : decode cX5_clear 5 = .ok (.aload_n 0, 1) := by decide +kernel
theorem dX5_clear_6 : decode cX5_clear 6 = .ok (.iconst 0, 1) := by decide +kernel
theorem dX5_clear_7 : decode cX5_clear 7 = .ok (.putfield 27, 3) := by decide +kernel
theorem dX5_clear_10 : decode cX5_clear 10 = .ok (.aload_n 0, 1) := by decide +kernel
theorem dX5_clear_11 : decode cX5_clear 11 = .ok (.iconst 0, 1) := by decide +kernel
theorem dX5_clear_12 : decode cX5_clear 12 = .ok (.putfield 30, 3) := by decide +kernel
theorem dX5_clear_15 : decode cX5_clear 15 = .ok (.return_, 1) := by decide +kernel
theorem dX9_isDone_0 : decode cX9_isDone 0 = .ok (.aload_n 0, 1) := by decide +kernel
theorem dX9_isDone_1 : decode cX9_isDone 1 = .ok (.invokevirtual 31, 3) := by decide +kernel
theorem dX9_isDone_4 : decode cX9_isDone 4 = .ok (.ifCond .ne 17, 3) := by decide +kernel
theorem dX9_isDone_7 : decode cX9_isDone 7 = .ok (.aload_n 0, 1) := by decide +kernel
theorem dX9_isDone_8 : decode cX9_isDone 8 = .ok (.getfield 28, 3) := by decide +kernel
theorem dX9_isDone_11 : decode cX9_isDone 11 = .ok (.aload_n 0, 1) := by decide +kernel
theorem dX9_isDone_12 : decode cX9_isDone 12 = .ok (.getfield 18, 3) := by decide +kernel
theorem dX9_isDone_15 : decode cX9_isDone 15 = .ok (.getfield 35, 3) := by decide +kernel
theorem dX9_isDone_18 : decode cX9_isDone 18 = .ok (.if_icmp .lt 7, 3) := by decide +kernel
theorem dX9_isDone_21 : decode cX9_isDone 21 = .ok (.iconst 1, 1) := by decide +kernel
theorem dX9_isDone_22 : decode cX9_isDone 22 = .ok (.goto 4, 3) := by decide +kernel
theorem dX9_isDone_25 : decode cX9_isDone 25 = .ok (.iconst 0, 1) := by decide +kernel
theorem dX9_isDone_26 : decode cX9_isDone 26 = .ok (.ireturn, 1) := by decide +kernel
theorem dX9_isAtName_0 : decode cX9_isAtName 0 = .ok (.aload_n 0, 1) := by decide +kernel
theorem dX9_isAtName_1 : decode cX9_isAtName 1 = .ok (.getfield 18, 3) := by decide +kernel
theorem dX9_isAtName_4 : decode cX9_isAtName 4 = .ok (.getfield 38, 3) := by decide +kernel
theorem dX9_isAtName_7 : decode cX9_isAtName 7 = .ok (.aload_n 0, 1) := by decide +kernel
theorem dX9_isAtName_8 : decode cX9_isAtName 8 = .ok (.getfield 28, 3) := by decide +kernel
theorem dX9_isAtName_11 : decode cX9_isAtName 11 = .ok (.baload, 1) := by decide +kernel
theorem dX9_isAtName_12 : decode cX9_isAtName 12 = .ok (.iconst 1, 1) := by decide +kernel
theorem dX9_isAtName_13 : decode cX9_isAtName 13 = .ok (.if_icmp .ne 7, 3) := by decide +kernel
theorem dX9_isAtName_16 : decode cX9_isAtName 16 = .ok (.iconst 1, 1) := by decide +kernel
theorem dX9_isAtName_17 : decode cX9_isAtName 17 = .ok (.goto 4, 3) := by decide +kernel
theorem dX9_isAtName_20 : decode cX9_isAtName 20 = .ok (.iconst 0, 1) := by decide +kernel
theorem dX9_isAtName_21 : decode cX9_isAtName 21 = .ok (.ireturn, 1) := by decide +kernel
theorem dX7_bytesBehind_0 : decode cX7_bytesBehind 0 = .ok (.aload_n 1, 1) := by decide +kernel
theorem dX7_bytesBehind_1 : decode cX7_bytesBehind 1 = .ok (.getfield 33, 3) := by decide +kernel
theorem dX7_bytesBehind_4 : decode cX7_bytesBehind 4 = .ok (.iload_n 2, 1) := by decide +kernel
theorem dX7_bytesBehind_5 : decode cX7_bytesBehind 5 = .ok (.baload, 1) := by decide +kernel
theorem dX7_bytesBehind_6 : decode cX7_bytesBehind 6 = .ok (.iconst 1, 1) := by decide +kernel
theorem dX7_bytesBehind_7 : decode cX7_bytesBehind 7 = .ok (.if_icmp .eq 5, 3) := by decide +kernel
theorem dX7_bytesBehind_10 : decode cX7_bytesBehind 10 = .ok (.iconst (-1), 1) := by decide +kernel
theorem dX7_bytesBehind_11 : decode cX7_bytesBehind 11 = .ok (.ireturn, 1) := by decide +kernel
theorem dX7_bytesBehind_12 : decode cX7_bytesBehind 12 = .ok (.aload_n 1, 1) := by decide +kernel
theorem dX7_bytesBehind_13 : decode cX7_bytesBehind 13 = .ok (.getfield 15, 3) := by decide +kernel
theorem dX7_bytesBehind_16 : decode cX7_bytesBehind 16 = .ok (.iload_n 2, 1) := by decide +kernel
theorem dX7_bytesBehind_17 : decode cX7_bytesBehind 17 = .ok (.iaload, 1) := by decide +kernel
theorem dX7_bytesBehind_18 : decode cX7_bytesBehind 18 = .ok (.istore_n 3, 1) := by decide +kernel
theorem dX7_bytesBehind_19 : decode cX7_bytesBehind 19 = .ok (.aload_n 1, 1) := by decide +kernel
theorem dX7_bytesBehind_20 : decode cX7_bytesBehind 20 = .ok (.getfield 19, 3) := by decide +kernel
theorem dX7_bytesBehind_23 : decode cX7_bytesBehind 23 = .ok (.iload_n 2, 1) := by decide +kernel
theorem dX7_bytesBehind_24 : decode cX7_bytesBehind 24 = .ok (.iaload, 1) := by decide +kernel
theorem dX7_bytesBehind_25 : decode cX7_bytesBehind 25 = .ok (.iload_n 3, 1) := by decide +kernel
theorem dX7_bytesBehind_26 : decode cX7_bytesBehind 26 = .ok (.isub, 1) := by decide +kernel
theorem dX7_bytesBehind_27 : decode cX7_bytesBehind 27 = .ok (.aload_n 0, 1) := by decide +kernel
theorem dX7_bytesBehind_28 : decode cX7_bytesBehind 28 = .ok (.getfield 28, 3) := by decide +kernel
theorem dX7_bytesBehind_31 : decode cX7_bytesBehind 31 = .ok (.arraylength, 1) := by decide +kernel
theorem dX7_bytesBehind_32 : decode cX7_bytesBehind 32 = .ok (.isub, 1) := by decide +kernel
theorem dX7_bytesBehind_33 : decode cX7_bytesBehind 33 = .ok (.istore 4, 2) := by decide +kernel
theorem dX7_bytesBehind_35 : decode cX7_bytesBehind 35 = .ok (.iload 4, 2) := by decide +kernel
theorem dX7_bytesBehind_37 : decode cX7_bytesBehind 37 = .ok (.ifCond .ge 5, 3) := by decide +kernel
theorem dX7_bytesBehind_40 : decode cX7_bytesBehind 40 = .ok (.iconst (-1), 1) := by decide +kernel
theorem dX7_bytesBehind_41 : decode cX7_bytesBehind 41 = .ok (.ireturn, 1) := by decide +kernel
theorem dX7_bytesBehind_42 : decode cX7_bytesBehind 42 = .ok (.iconst 0, 1) := by decide +kernel
theorem dX7_bytesBehind_43 : decode cX7_bytesBehind 43 = .ok (.istore 5, 2) := by decide +kernel
theorem dX7_bytesBehind_45 : decode cX7_bytesBehind 45 = .ok (.iload 5, 2) := by decide +kernel
theorem dX7_bytesBehind_47 : decode cX7_bytesBehind 47 = .ok (.aload_n 0, 1) := by decide +kernel
theorem dX7_bytesBehind_48 : decode cX7_bytesBehind 48 = .ok (.getfield 28, 3) := by decide +kernel
theorem dX7_bytesBehind_51 : decode cX7_bytesBehind 51 = .ok (.arraylength, 1) := by decide +kernel
theorem dX7_bytesBehind_52 : decode cX7_bytesBehind 52 = .ok (.if_icmp .ge 30, 3) := by decide +kernel
theorem dX7_bytesBehind_55 : decode cX7_bytesBehind 55 = .ok (.aload_n 1, 1) := by decide +kernel
theorem dX7_bytesBehind_56 : decode cX7_bytesBehind 56 = .ok (.getfield 9, 3) := by decide +kernel
theorem dX7_bytesBehind_59 : decode cX7_bytesBehind 59 = .ok (.iload_n 3, 1) := by decide +kernel
theorem dX7_bytesBehind_60 : decode cX7_bytesBehind 60 = .ok (.iload 5, 2) := by decide +kernel
theorem dX7_bytesBehind_62 : decode cX7_bytesBehind 62 = .ok (.iadd, 1) := by decide +kernel
theorem dX7_bytesBehind_63 : decode cX7_bytesBehind 63 = .ok (.baload, 1) := by decide +kernel
theorem dX7_bytesBehind_64 : decode cX7_bytesBehind 64 = .ok (.aload_n 0, 1) := by decide +kernel
theorem dX7_bytesBehind_65 : decode cX7_bytesBehind 65 = .ok (.getfield 28, 3) := by decide +kernel
theorem dX7_bytesBehind_68 : decode cX7_bytesBehind 68 = .ok (.iload 5, 2) := by decide +kernel
theorem dX7_bytesBehind_70 : decode cX7_bytesBehind 70 = .ok (.baload, 1) := by decide +kernel
theorem dX7_bytesBehind_71 : decode cX7_bytesBehind 71 = .ok (.if_icmp .eq 5, 3) := by decide +kernel
theorem dX7_bytesBehind_74 : decode cX7_bytesBehind 74 = .ok (.iconst (-1), 1) := by decide +kernel
theorem dX7_bytesBehind_75 : decode cX7_bytesBehind 75 = .ok (.ireturn, 1) := by decide +kernel
theorem dX7_bytesBehind_76 : decode cX7_bytesBehind 76 = .ok (.iinc 5 1, 3) := by decide +kernel
theorem dX7_bytesBehind_79 : decode cX7_bytesBehind 79 = .ok (.goto (-34), 3) := by decide +kernel
theorem dX7_bytesBehind_82 : decode cX7_bytesBehind 82 = .ok (.iload 4, 2) := by decide +kernel
theorem dX7_bytesBehind_84 : decode cX7_bytesBehind 84 = .ok (.ireturn, 1) := by decide +kernel
theorem dX5_kindNamed_0 : decode cX5_kindNamed 0 = .ok (.iconst 0, 1) := by decide +kernel
theorem dX5_kindNamed_1 : decode cX5_kindNamed 1 = .ok (.istore_n 3, 1) := by decide +kernel
theorem dX5_kindNamed_2 : decode cX5_kindNamed 2 = .ok (.iload_n 3, 1) := by decide +kernel
theorem dX5_kindNamed_3 : decode cX5_kindNamed 3 = .ok (.aload_n 0, 1) := by decide +kernel
theorem dX5_kindNamed_4 : decode cX5_kindNamed 4 = .ok (.getfield 27, 3) := by decide +kernel
theorem dX5_kindNamed_7 : decode cX5_kindNamed 7 = .ok (.if_icmp .ge 33, 3) := by decide +kernel
theorem dX5_kindNamed_10 : decode cX5_kindNamed 10 = .ok (.aload_n 0, 1) := by decide +kernel
theorem dX5_kindNamed_11 : decode cX5_kindNamed 11 = .ok (.getfield 11, 3) := by decide +kernel
theorem dX5_kindNamed_14 : decode cX5_kindNamed 14 = .ok (.iload_n 3, 1) := by decide +kernel
theorem dX5_kindNamed_15 : decode cX5_kindNamed 15 = .ok (.aaload, 1) := by decide +kernel
theorem dX5_kindNamed_16 : decode cX5_kindNamed 16 = .ok (.getfield 33, 3) := by decide +kernel
theorem dX5_kindNamed_19 : decode cX5_kindNamed 19 = .ok (.aload_n 1, 1) := by decide +kernel
theorem dX5_kindNamed_20 : decode cX5_kindNamed 20 = .ok (.iload_n 2, 1) := by decide +kernel
theorem dX5_kindNamed_21 : decode cX5_kindNamed 21 = .ok (.invokevirtual 37, 3) := by decide +kernel
theorem dX5_kindNamed_24 : decode cX5_kindNamed 24 = .ok (.ifCond .ne 10, 3) := by decide +kernel
theorem dX5_kindNamed_27 : decode cX5_kindNamed 27 = .ok (.aload_n 0, 1) := by decide +kernel
theorem dX5_kindNamed_28 : decode cX5_kindNamed 28 = .ok (.getfield 11, 3) := by decide +kernel
theorem dX5_kindNamed_31 : decode cX5_kindNamed 31 = .ok (.iload_n 3, 1) := by decide +kernel
theorem dX5_kindNamed_32 : decode cX5_kindNamed 32 = .ok (.aaload, 1) := by decide +kernel
theorem dX5_kindNamed_33 : decode cX5_kindNamed 33 = .ok (.areturn, 1) := by decide +kernel
theorem dX5_kindNamed_34 : decode cX5_kindNamed 34 = .ok (.iinc 3 1, 3) := by decide +kernel
theorem dX5_kindNamed_37 : decode cX5_kindNamed 37 = .ok (.goto (-35), 3) := by decide +kernel
theorem dX5_kindNamed_40 : decode cX5_kindNamed 40 = .ok (.aconst_null, 1) := by decide +kernel
theorem dX5_kindNamed_41 : decode cX5_kindNamed 41 = .ok (.areturn, 1) := by decide +kernel
theorem dJ7_checkLength_df160_0 : decode cJ7_checkLength_df160 0 = .ok (.iload_n 1, 1) := by decide +kernel
theorem dJ7_checkLength_df160_1 : decode cJ7_checkLength_df160 1 = .ok (.iload_n 0, 1) := by decide +kernel
theorem dJ7_checkLength_df160_2 : decode cJ7_checkLength_df160 2 = .ok (.if_icmp .ge 35, 3) := by decide +kernel
theorem dJ7_checkLength_df160_5 : decode cJ7_checkLength_df160 5 = .ok (.new 43, 3) := by decide +kernel
theorem dJ7_checkLength_df160_8 : decode cJ7_checkLength_df160 8 = .ok (.dup, 1) := by decide +kernel
theorem dJ7_checkLength_df160_9 : decode cJ7_checkLength_df160 9 = .ok (.new 45, 3) := by decide +kernel
theorem dJ7_checkLength_df160_12 : decode cJ7_checkLength_df160 12 = .ok (.dup, 1) := by decide +kernel
theorem dJ7_checkLength_df160_13 : decode cJ7_checkLength_df160 13 = .ok (.invokespecial 47, 3) := by decide +kernel
theorem dJ7_checkLength_df160_16 : decode cJ7_checkLength_df160 16 = .ok (.iload_n 0, 1) := by decide +kernel
theorem dJ7_checkLength_df160_17 : decode cJ7_checkLength_df160 17 = .ok (.invokevirtual 54, 3) := by decide +kernel
theorem dJ7_checkLength_df160_20 : decode cJ7_checkLength_df160 20 = .ok (.ldc_w 337, 3) := by decide +kernel
theorem dJ7_checkLength_df160_23 : decode cJ7_checkLength_df160 23 = .ok (.invokevirtual 50, 3) := by decide +kernel
theorem dJ7_checkLength_df160_26 : decode cJ7_checkLength_df160 26 = .ok (.iload_n 1, 1) := by decide +kernel
theorem dJ7_checkLength_df160_27 : decode cJ7_checkLength_df160 27 = .ok (.invokevirtual 54, 3) := by decide +kernel
theorem dJ7_checkLength_df160_30 : decode cJ7_checkLength_df160 30 = .ok (.invokevirtual 61, 3) := by decide +kernel
theorem dJ7_checkLength_df160_33 : decode cJ7_checkLength_df160 33 = .ok (.invokespecial 65, 3) := by decide +kernel
theorem dJ7_checkLength_df160_36 : decode cJ7_checkLength_df160 36 = .ok (.athrow, 1) := by decide +kernel
theorem dJ7_checkLength_df160_37 : decode cJ7_checkLength_df160 37 = .ok (.return_, 1) := by decide +kernel
theorem dJ9_min_7cf53_0 : decode cJ9_min_7cf53 0 = .ok (.iload_n 0, 1) := by decide +kernel
theorem dJ9_min_7cf53_1 : decode cJ9_min_7cf53 1 = .ok (.iload_n 1, 1) := by decide +kernel
theorem dJ9_min_7cf53_2 : decode cJ9_min_7cf53 2 = .ok (.if_icmp .gt 7, 3) := by decide +kernel
theorem dJ9_min_7cf53_5 : decode cJ9_min_7cf53 5 = .ok (.iload_n 0, 1) := by decide +kernel
theorem dJ9_min_7cf53_6 : decode cJ9_min_7cf53 6 = .ok (.goto 4, 3) := by decide +kernel
theorem dJ9_min_7cf53_9 : decode cJ9_min_7cf53 9 = .ok (.iload_n 1, 1) := by decide +kernel
theorem dJ9_min_7cf53_10 : decode cJ9_min_7cf53 10 = .ok (.ireturn, 1) := by decide +kernel
theorem dJ7_copyOfRangeByte_39247_0 : decode cJ7_copyOfRangeByte_39247 0 = .ok (.iload_n 1, 1) := by decide +kernel
theorem dJ7_copyOfRangeByte_39247_1 : decode cJ7_copyOfRangeByte_39247 1 = .ok (.iload_n 2, 1) := by decide +kernel
theorem dJ7_copyOfRangeByte_39247_2 : decode cJ7_copyOfRangeByte_39247 2 = .ok (.invokestatic 343, 3) := by decide +kernel
theorem dJ7_copyOfRangeByte_39247_5 : decode cJ7_copyOfRangeByte_39247 5 = .ok (.iload_n 2, 1) := by decide +kernel
theorem dJ7_copyOfRangeByte_39247_6 : decode cJ7_copyOfRangeByte_39247 6 = .ok (.iload_n 1, 1) := by decide +kernel
theorem dJ7_copyOfRangeByte_39247_7 : decode cJ7_copyOfRangeByte_39247 7 = .ok (.isub, 1) := by decide +kernel
theorem dJ7_copyOfRangeByte_39247_8 : decode cJ7_copyOfRangeByte_39247 8 = .ok (.istore_n 3, 1) := by decide +kernel
theorem dJ7_copyOfRangeByte_39247_9 : decode cJ7_copyOfRangeByte_39247 9 = .ok (.iload_n 3, 1) := by decide +kernel
theorem dJ7_copyOfRangeByte_39247_10 : decode cJ7_copyOfRangeByte_39247 10 = .ok (.newarray .byte, 2) := by decide +kernel
theorem dJ7_copyOfRangeByte_39247_12 : decode cJ7_copyOfRangeByte_39247 12 = .ok (.astore 4, 2) := by decide +kernel
theorem dJ7_copyOfRangeByte_39247_14 : decode cJ7_copyOfRangeByte_39247 14 = .ok (.aload_n 0, 1) := by decide +kernel
theorem dJ7_copyOfRangeByte_39247_15 : decode cJ7_copyOfRangeByte_39247 15 = .ok (.iload_n 1, 1) := by decide +kernel
theorem dJ7_copyOfRangeByte_39247_16 : decode cJ7_copyOfRangeByte_39247 16 = .ok (.aload 4, 2) := by decide +kernel
theorem dJ7_copyOfRangeByte_39247_18 : decode cJ7_copyOfRangeByte_39247 18 = .ok (.iconst 0, 1) := by decide +kernel
theorem dJ7_copyOfRangeByte_39247_19 : decode cJ7_copyOfRangeByte_39247 19 = .ok (.aload_n 0, 1) := by decide +kernel
theorem dJ7_copyOfRangeByte_39247_20 : decode cJ7_copyOfRangeByte_39247 20 = .ok (.arraylength, 1) := by decide +kernel
theorem dJ7_copyOfRangeByte_39247_21 : decode cJ7_copyOfRangeByte_39247 21 = .ok (.iload_n 1, 1) := by decide +kernel
theorem dJ7_copyOfRangeByte_39247_22 : decode cJ7_copyOfRangeByte_39247 22 = .ok (.isub, 1) := by decide +kernel
theorem dJ7_copyOfRangeByte_39247_23 : decode cJ7_copyOfRangeByte_39247 23 = .ok (.iload_n 3, 1) := by decide +kernel
theorem dJ7_copyOfRangeByte_39247_24 : decode cJ7_copyOfRangeByte_39247 24 = .ok (.invokestatic 304, 3) := by decide +kernel
theorem dJ7_copyOfRangeByte_39247_27 : decode cJ7_copyOfRangeByte_39247 27 = .ok (.invokestatic 150, 3) := by decide +kernel
theorem dJ7_copyOfRangeByte_39247_30 : decode cJ7_copyOfRangeByte_39247 30 = .ok (.aload 4, 2) := by decide +kernel
theorem dJ7_copyOfRangeByte_39247_32 : decode cJ7_copyOfRangeByte_39247 32 = .ok (.areturn, 1) := by decide +kernel
theorem dJ7_copyOfRange_39247_0 : decode cJ7_copyOfRange_39247 0 = .ok (.iload_n 1, 1) := by decide +kernel
theorem dJ7_copyOfRange_39247_1 : decode cJ7_copyOfRange_39247 1 = .ok (.ifCond .ne 9, 3) := by decide +kernel
theorem dJ7_copyOfRange_39247_4 : decode cJ7_copyOfRange_39247 4 = .ok (.iload_n 2, 1) := by decide +kernel
theorem dJ7_copyOfRange_39247_5 : decode cJ7_copyOfRange_39247 5 = .ok (.aload_n 0, 1) := by decide +kernel
theorem dJ7_copyOfRange_39247_6 : decode cJ7_copyOfRange_39247 6 = .ok (.arraylength, 1) := by decide +kernel
theorem dJ7_copyOfRange_39247_7 : decode cJ7_copyOfRange_39247 7 = .ok (.if_icmp .eq 10, 3) := by decide +kernel
theorem dJ7_copyOfRange_39247_10 : decode cJ7_copyOfRange_39247 10 = .ok (.aload_n 0, 1) := by decide +kernel
theorem dJ7_copyOfRange_39247_11 : decode cJ7_copyOfRange_39247 11 = .ok (.iload_n 1, 1) := by decide +kernel
theorem dJ7_copyOfRange_39247_12 : decode cJ7_copyOfRange_39247 12 = .ok (.iload_n 2, 1) := by decide +kernel
theorem dJ7_copyOfRange_39247_13 : decode cJ7_copyOfRange_39247 13 = .ok (.invokestatic 339, 3) := by decide +kernel
theorem dJ7_copyOfRange_39247_16 : decode cJ7_copyOfRange_39247 16 = .ok (.areturn, 1) := by decide +kernel
theorem dJ7_copyOfRange_39247_17 : decode cJ7_copyOfRange_39247 17 = .ok (.aload_n 0, 1) := by decide +kernel
theorem dJ7_copyOfRange_39247_18 : decode cJ7_copyOfRange_39247 18 = .ok (.invokevirtual 310, 3) := by decide +kernel
theorem dJ7_copyOfRange_39247_21 : decode cJ7_copyOfRange_39247 21 = .ok (.checkcast 311, 3) := by decide +kernel
theorem dJ7_copyOfRange_39247_24 : decode cJ7_copyOfRange_39247 24 = .ok (.areturn, 1) := by decide +kernel
theorem dX7_init_0 : decode cX7_init 0 = .ok (.aload_n 0, 1) := by decide +kernel
theorem dX7_init_1 : decode cX7_init 1 = .ok (.invokespecial 3, 3) := by decide +kernel
theorem dX7_init_4 : decode cX7_init 4 = .ok (.aload_n 0, 1) := by decide +kernel
theorem dX7_init_5 : decode cX7_init 5 = .ok (.aload_n 1, 1) := by decide +kernel
theorem dX7_init_6 : decode cX7_init 6 = .ok (.getfield 9, 3) := by decide +kernel
theorem dX7_init_9 : decode cX7_init 9 = .ok (.aload_n 1, 1) := by decide +kernel
theorem dX7_init_10 : decode cX7_init 10 = .ok (.getfield 15, 3) := by decide +kernel
theorem dX7_init_13 : decode cX7_init 13 = .ok (.iload_n 2, 1) := by decide +kernel
theorem dX7_init_14 : decode cX7_init 14 = .ok (.iaload, 1) := by decide +kernel
theorem dX7_init_15 : decode cX7_init 15 = .ok (.aload_n 1, 1) := by decide +kernel
theorem dX7_init_16 : decode cX7_init 16 = .ok (.getfield 19, 3) := by decide +kernel
theorem dX7_init_19 : decode cX7_init 19 = .ok (.iload_n 2, 1) := by decide +kernel
theorem dX7_init_20 : decode cX7_init 20 = .ok (.iaload, 1) := by decide +kernel
theorem dX7_init_21 : decode cX7_init 21 = .ok (.invokestatic 22, 3) := by decide +kernel
theorem dX7_init_24 : decode cX7_init 24 = .ok (.putfield 28, 3) := by decide +kernel
theorem dX7_init_27 : decode cX7_init 27 = .ok (.return_, 1) := by decide +kernel
theorem dX2_init_0 : decode cX2_init 0 = .ok (.aload_n 0, 1) := by decide +kernel
theorem dX2_init_1 : decode cX2_init 1 = .ok (.invokespecial 3, 3) := by decide +kernel
theorem dX2_init_4 : decode cX2_init 4 = .ok (.aload_n 0, 1) := by decide +kernel
theorem dX2_init_5 : decode cX2_init 5 = .ok (.iload_n 1, 1) := by decide +kernel
theorem dX2_init_6 : decode cX2_init 6 = .ok (.putfield 9, 3) := by decide +kernel
theorem dX2_init_9 : decode cX2_init 9 = .ok (.aload_n 0, 1) := by decide +kernel
theorem dX2_init_10 : decode cX2_init 10 = .ok (.aload_n 2, 1) := by decide +kernel
theorem dX2_init_11 : decode cX2_init 11 = .ok (.putfield 15, 3) := by decide +kernel
theorem dX2_init_14 : decode cX2_init 14 = .ok (.aload_n 0, 1) := by decide +kernel
theorem dX2_init_15 : decode cX2_init 15 = .ok (.aload_n 2, 1) := by decide +kernel
theorem dX2_init_16 : decode cX2_init 16 = .ok (.putfield 19, 3) := by decide +kernel
theorem dX2_init_19 : decode cX2_init 19 = .ok (.aload_n 0, 1) := by decide +kernel
theorem dX2_init_20 : decode cX2_init 20 = .ok (.iload_n 1, 1) := by decide +kernel
theorem dX2_init_21 : decode cX2_init 21 = .ok (.iconst 4, 1) := by decide +kernel
theorem dX2_init_22 : decode cX2_init 22 = .ok (.if_icmp .ne 8, 3) := by decide +kernel
theorem dX2_init_25 : decode cX2_init 25 = .ok (.bipush 32, 2) := by decide +kernel
theorem dX2_init_27 : decode cX2_init 27 = .ok (.goto 4, 3) := by decide +kernel
theorem dX2_init_30 : decode cX2_init 30 = .ok (.iconst 0, 1) := by decide +kernel
theorem dX2_init_31 : decode cX2_init 31 = .ok (.anewarray 22, 3) := by decide +kernel
theorem dX2_init_34 : decode cX2_init 34 = .ok (.putfield 24, 3) := by decide +kernel
theorem dX2_init_37 : decode cX2_init 37 = .ok (.return_, 1) := by decide +kernel
theorem dX9_fail_0 : decode cX9_fail 0 = .ok (.aload_n 0, 1) := by decide +kernel
theorem dX9_fail_1 : decode cX9_fail 1 = .ok (.iload_n 1, 1) := by decide +kernel
theorem dX9_fail_2 : decode cX9_fail 2 = .ok (.putfield 9, 3) := by decide +kernel
theorem dX9_fail_5 : decode cX9_fail 5 = .ok (.aload_n 0, 1) := by decide +kernel
theorem dX9_fail_6 : decode cX9_fail 6 = .ok (.aload_n 0, 1) := by decide +kernel
theorem dX9_fail_7 : decode cX9_fail 7 = .ok (.getfield 28, 3) := by decide +kernel
theorem dX9_fail_10 : decode cX9_fail 10 = .ok (.putfield 15, 3) := by decide +kernel
theorem dX9_fail_13 : decode cX9_fail 13 = .ok (.iconst 0, 1) := by decide +kernel
theorem dX9_fail_14 : decode cX9_fail 14 = .ok (.ireturn, 1) := by decide +kernel
theorem dX9_takeNumber_0 : decode cX9_takeNumber 0 = .ok (.aload_n 0, 1) := by decide +kernel
theorem dX9_takeNumber_1 : decode cX9_takeNumber 1 = .ok (.getfield 18, 3) := by decide +kernel
theorem dX9_takeNumber_4 : decode cX9_takeNumber 4 = .ok (.getfield 38, 3) := by decide +kernel
theorem dX9_takeNumber_7 : decode cX9_takeNumber 7 = .ok (.aload_n 0, 1) := by decide +kernel
theorem dX9_takeNumber_8 : decode cX9_takeNumber 8 = .ok (.getfield 28, 3) := by decide +kernel
theorem dX9_takeNumber_11 : decode cX9_takeNumber 11 = .ok (.baload, 1) := by decide +kernel
theorem dX9_takeNumber_12 : decode cX9_takeNumber 12 = .ok (.iconst 2, 1) := by decide +kernel
theorem dX9_takeNumber_13 : decode cX9_takeNumber 13 = .ok (.if_icmp .eq 13, 3) := by decide +kernel
theorem dX9_takeNumber_16 : decode cX9_takeNumber 16 = .ok (.aload_n 0, 1) := by decide +kernel
theorem dX9_takeNumber_17 : decode cX9_takeNumber 17 = .ok (.iconst 1, 1) := by decide +kernel
theorem dX9_takeNumber_18 : decode cX9_takeNumber 18 = .ok (.invokevirtual 50, 3) := by decide +kernel
theorem dX9_takeNumber_21 : decode cX9_takeNumber 21 = .ok (.pop, 1) := by decide +kernel
theorem dX9_takeNumber_22 : decode cX9_takeNumber 22 = .ok (.ldc2_w 54, 3) := by decide +kernel
theorem dX9_takeNumber_25 : decode cX9_takeNumber 25 = .ok (.lreturn, 1) := by decide +kernel
theorem dX9_takeNumber_26 : decode cX9_takeNumber 26 = .ok (.aload_n 0, 1) := by decide +kernel
theorem dX9_takeNumber_27 : decode cX9_takeNumber 27 = .ok (.getfield 18, 3) := by decide +kernel
theorem dX9_takeNumber_30 : decode cX9_takeNumber 30 = .ok (.getfield 42, 3) := by decide +kernel
theorem dX9_takeNumber_33 : decode cX9_takeNumber 33 = .ok (.aload_n 0, 1) := by decide +kernel
theorem dX9_takeNumber_34 : decode cX9_takeNumber 34 = .ok (.getfield 28, 3) := by decide +kernel
theorem dX9_takeNumber_37 : decode cX9_takeNumber 37 = .ok (.laload, 1) := by decide +kernel
theorem dX9_takeNumber_38 : decode cX9_takeNumber 38 = .ok (.lstore 5, 2) := by decide +kernel
theorem dX9_takeNumber_40 : decode cX9_takeNumber 40 = .ok (.lload 5, 2) := by decide +kernel
theorem dX9_takeNumber_42 : decode cX9_takeNumber 42 = .ok (.lload_n 1, 1) := by decide +kernel
theorem dX9_takeNumber_43 : decode cX9_takeNumber 43 = .ok (.lcmp, 1) := by decide +kernel
theorem dX9_takeNumber_44 : decode cX9_takeNumber 44 = .ok (.ifCond .lt 10, 3) := by decide +kernel
theorem dX9_takeNumber_47 : decode cX9_takeNumber 47 = .ok (.lload 5, 2) := by decide +kernel
theorem dX9_takeNumber_49 : decode cX9_takeNumber 49 = .ok (.lload_n 3, 1) := by decide +kernel
theorem dX9_takeNumber_50 : decode cX9_takeNumber 50 = .ok (.lcmp, 1) := by decide +kernel
theorem dX9_takeNumber_51 : decode cX9_takeNumber 51 = .ok (.ifCond .le 13, 3) := by decide +kernel
theorem dX9_takeNumber_54 : decode cX9_takeNumber 54 = .ok (.aload_n 0, 1) := by decide +kernel
theorem dX9_takeNumber_55 : decode cX9_takeNumber 55 = .ok (.iconst 3, 1) := by decide +kernel
theorem dX9_takeNumber_56 : decode cX9_takeNumber 56 = .ok (.invokevirtual 50, 3) := by decide +kernel
theorem dX9_takeNumber_59 : decode cX9_takeNumber 59 = .ok (.pop, 1) := by decide +kernel
theorem dX9_takeNumber_60 : decode cX9_takeNumber 60 = .ok (.ldc2_w 54, 3) := by decide +kernel
theorem dX9_takeNumber_63 : decode cX9_takeNumber 63 = .ok (.lreturn, 1) := by decide +kernel
theorem dX9_takeNumber_64 : decode cX9_takeNumber 64 = .ok (.aload_n 0, 1) := by decide +kernel
theorem dX9_takeNumber_65 : decode cX9_takeNumber 65 = .ok (.dup, 1) := by decide +kernel
theorem dX9_takeNumber_66 : decode cX9_takeNumber 66 = .ok (.getfield 28, 3) := by decide +kernel
theorem dX9_takeNumber_69 : decode cX9_takeNumber 69 = .ok (.iconst 1, 1) := by decide +kernel
theorem dX9_takeNumber_70 : decode cX9_takeNumber 70 = .ok (.iadd, 1) := by decide +kernel
theorem dX9_takeNumber_71 : decode cX9_takeNumber 71 = .ok (.putfield 28, 3) := by decide +kernel
theorem dX9_takeNumber_74 : decode cX9_takeNumber 74 = .ok (.lload 5, 2) := by decide +kernel
theorem dX9_takeNumber_76 : decode cX9_takeNumber 76 = .ok (.lreturn, 1) := by decide +kernel
theorem dX2_widen_0 : decode cX2_widen 0 = .ok (.aload_n 0, 1) := by decide +kernel
theorem dX2_widen_1 : decode cX2_widen 1 = .ok (.iconst 1, 1) := by decide +kernel
theorem dX2_widen_2 : decode cX2_widen 2 = .ok (.putfield 28, 3) := by decide +kernel
theorem dX2_widen_5 : decode cX2_widen 5 = .ok (.aload_n 0, 1) := by decide +kernel
theorem dX2_widen_6 : decode cX2_widen 6 = .ok (.getfield 28, 3) := by decide +kernel
theorem dX2_widen_9 : decode cX2_widen 9 = .ok (.bipush 32, 2) := by decide +kernel
theorem dX2_widen_11 : decode cX2_widen 11 = .ok (.if_icmp .ge 31, 3) := by decide +kernel
theorem dX2_widen_14 : decode cX2_widen 14 = .ok (.lconst 1, 1) := by decide +kernel
theorem dX2_widen_15 : decode cX2_widen 15 = .ok (.aload_n 0, 1) := by decide +kernel
theorem dX2_widen_16 : decode cX2_widen 16 = .ok (.getfield 28, 3) := by decide +kernel
theorem dX2_widen_19 : decode cX2_widen 19 = .ok (.lshl, 1) := by decide +kernel
theorem dX2_widen_20 : decode cX2_widen 20 = .ok (.aload_n 0, 1) := by decide +kernel
theorem dX2_widen_21 : decode cX2_widen 21 = .ok (.getfield 31, 3) := by decide +kernel
theorem dX2_widen_24 : decode cX2_widen 24 = .ok (.i2l, 1) := by decide +kernel
theorem dX2_widen_25 : decode cX2_widen 25 = .ok (.lcmp, 1) := by decide +kernel
theorem dX2_widen_26 : decode cX2_widen 26 = .ok (.ifCond .ge 16, 3) := by decide +kernel
theorem dX2_widen_29 : decode cX2_widen 29 = .ok (.aload_n 0, 1) := by decide +kernel
theorem dX2_widen_30 : decode cX2_widen 30 = .ok (.dup, 1) := by decide +kernel
theorem dX2_widen_31 : decode cX2_widen 31 = .ok (.getfield 28, 3) := by decide +kernel
theorem dX2_widen_34 : decode cX2_widen 34 = .ok (.iconst 1, 1) := by decide +kernel
theorem dX2_widen_35 : decode cX2_widen 35 = .ok (.iadd, 1) := by decide +kernel
theorem dX2_widen_36 : decode cX2_widen 36 = .ok (.putfield 28, 3) := by decide +kernel
theorem dX2_widen_39 : decode cX2_widen 39 = .ok (.goto (-34), 3) := by decide +kernel
theorem dX2_widen_42 : decode cX2_widen 42 = .ok (.return_, 1) := by decide +kernel
theorem dX2_memberAt_0 : decode cX2_memberAt 0 = .ok (.iconst 0, 1) := by decide +kernel
theorem dX2_memberAt_1 : decode cX2_memberAt 1 = .ok (.istore_n 3, 1) := by decide +kernel
theorem dX2_memberAt_2 : decode cX2_memberAt 2 = .ok (.iload_n 3, 1) := by decide +kernel
theorem dX2_memberAt_3 : decode cX2_memberAt 3 = .ok (.aload_n 0, 1) := by decide +kernel
theorem dX2_memberAt_4 : decode cX2_memberAt 4 = .ok (.getfield 24, 3) := by decide +kernel
theorem dX2_memberAt_7 : decode cX2_memberAt 7 = .ok (.arraylength, 1) := by decide +kernel
theorem dX2_memberAt_8 : decode cX2_memberAt 8 = .ok (.if_icmp .ge 33, 3) := by decide +kernel
theorem dX2_memberAt_11 : decode cX2_memberAt 11 = .ok (.iload_n 3, 1) := by decide +kernel
theorem dX2_memberAt_12 : decode cX2_memberAt 12 = .ok (.aload_n 0, 1) := by decide +kernel
theorem dX2_memberAt_13 : decode cX2_memberAt 13 = .ok (.getfield 31, 3) := by decide +kernel
theorem dX2_memberAt_16 : decode cX2_memberAt 16 = .ok (.if_icmp .ge 25, 3) := by decide +kernel
theorem dX2_memberAt_19 : decode cX2_memberAt 19 = .ok (.aload_n 0, 1) := by decide +kernel
theorem dX2_memberAt_20 : decode cX2_memberAt 20 = .ok (.getfield 24, 3) := by decide +kernel
theorem dX2_memberAt_23 : decode cX2_memberAt 23 = .ok (.iload_n 3, 1) := by decide +kernel
theorem dX2_memberAt_24 : decode cX2_memberAt 24 = .ok (.aaload, 1) := by decide +kernel
theorem dX2_memberAt_25 : decode cX2_memberAt 25 = .ok (.aload_n 1, 1) := by decide +kernel
theorem dX2_memberAt_26 : decode cX2_memberAt 26 = .ok (.iload_n 2, 1) := by decide +kernel
theorem dX2_memberAt_27 : decode cX2_memberAt 27 = .ok (.invokevirtual 38, 3) := by decide +kernel
theorem dX2_memberAt_30 : decode cX2_memberAt 30 = .ok (.ifCond .ne 5, 3) := by decide +kernel
theorem dX2_memberAt_33 : decode cX2_memberAt 33 = .ok (.iload_n 3, 1) := by decide +kernel
theorem dX2_memberAt_34 : decode cX2_memberAt 34 = .ok (.ireturn, 1) := by decide +kernel
theorem dX2_memberAt_35 : decode cX2_memberAt 35 = .ok (.iinc 3 1, 3) := by decide +kernel
theorem dX2_memberAt_38 : decode cX2_memberAt 38 = .ok (.goto (-36), 3) := by decide +kernel
theorem dX2_memberAt_41 : decode cX2_memberAt 41 = .ok (.iconst (-1), 1) := by decide +kernel
theorem dX2_memberAt_42 : decode cX2_memberAt 42 = .ok (.ireturn, 1) := by decide +kernel
theorem dX0_readMembers_0 : decode cX0_readMembers 0 = .ok (.iconst 0, 1) := by decide +kernel
theorem dX0_readMembers_1 : decode cX0_readMembers 1 = .ok (.istore_n 2, 1) := by decide +kernel
theorem dX0_readMembers_2 : decode cX0_readMembers 2 = .ok (.iload_n 2, 1) := by decide +kernel
theorem dX0_readMembers_3 : decode cX0_readMembers 3 = .ok (.aload_n 0, 1) := by decide +kernel
theorem dX0_readMembers_4 : decode cX0_readMembers 4 = .ok (.getfield 25, 3) := by decide +kernel
theorem dX0_readMembers_7 : decode cX0_readMembers 7 = .ok (.getfield 42, 3) := by decide +kernel
theorem dX0_readMembers_10 : decode cX0_readMembers 10 = .ok (.if_icmp .gt 114, 3) := by decide +kernel
theorem dX0_readMembers_13 : decode cX0_readMembers 13 = .ok (.aload_n 0, 1) := by decide +kernel
theorem dX0_readMembers_14 : decode cX0_readMembers 14 = .ok (.getfield 15, 3) := by decide +kernel
theorem dX0_readMembers_17 : decode cX0_readMembers 17 = .ok (.invokevirtual 117, 3) := by decide +kernel
theorem dX0_readMembers_20 : decode cX0_readMembers 20 = .ok (.ifCond .eq 104, 3) := by decide +kernel
theorem dX0_readMembers_23 : decode cX0_readMembers 23 = .ok (.aload_n 1, 1) := by decide +kernel
theorem dX0_readMembers_24 : decode cX0_readMembers 24 = .ok (.aload_n 0, 1) := by decide +kernel
theorem dX0_readMembers_25 : decode cX0_readMembers 25 = .ok (.getfield 25, 3) := by decide +kernel
theorem dX0_readMembers_28 : decode cX0_readMembers 28 = .ok (.aload_n 0, 1) := by decide +kernel
theorem dX0_readMembers_29 : decode cX0_readMembers 29 = .ok (.getfield 15, 3) := by decide +kernel
theorem dX0_readMembers_32 : decode cX0_readMembers 32 = .ok (.getfield 58, 3) := by decide +kernel
theorem dX0_readMembers_35 : decode cX0_readMembers 35 = .ok (.invokevirtual 170, 3) := by decide +kernel
theorem dX0_readMembers_38 : decode cX0_readMembers 38 = .ok (.ifCond .lt 12, 3) := by decide +kernel
theorem dX0_readMembers_41 : decode cX0_readMembers 41 = .ok (.aload_n 0, 1) := by decide +kernel
theorem dX0_readMembers_42 : decode cX0_readMembers 42 = .ok (.getfield 15, 3) := by decide +kernel
theorem dX0_readMembers_45 : decode cX0_readMembers 45 = .ok (.iconst 2, 1) := by decide +kernel
theorem dX0_readMembers_46 : decode cX0_readMembers 46 = .ok (.invokevirtual 67, 3) := by decide +kernel
theorem dX0_readMembers_49 : decode cX0_readMembers 49 = .ok (.ireturn, 1) := by decide +kernel
theorem dX0_readMembers_50 : decode cX0_readMembers 50 = .ok (.aload_n 1, 1) := by decide +kernel
theorem dX0_readMembers_51 : decode cX0_readMembers 51 = .ok (.getfield 164, 3) := by decide +kernel
theorem dX0_readMembers_54 : decode cX0_readMembers 54 = .ok (.bipush 32, 2) := by decide +kernel
theorem dX0_readMembers_56 : decode cX0_readMembers 56 = .ok (.if_icmp .ne 12, 3) := by decide +kernel
theorem dX0_readMembers_59 : decode cX0_readMembers 59 = .ok (.aload_n 0, 1) := by decide +kernel
theorem dX0_readMembers_60 : decode cX0_readMembers 60 = .ok (.getfield 15, 3) := by decide +kernel
theorem dX0_readMembers_63 : decode cX0_readMembers 63 = .ok (.iconst 3, 1) := by decide +kernel
theorem dX0_readMembers_64 : decode cX0_readMembers 64 = .ok (.invokevirtual 67, 3) := by decide +kernel
theorem dX0_readMembers_67 : decode cX0_readMembers 67 = .ok (.ireturn, 1) := by decide +kernel
theorem dX0_readMembers_68 : decode cX0_readMembers 68 = .ok (.aload_n 1, 1) := by decide +kernel
theorem dX0_readMembers_69 : decode cX0_readMembers 69 = .ok (.getfield 174, 3) := by decide +kernel
theorem dX0_readMembers_72 : decode cX0_readMembers 72 = .ok (.aload_n 1, 1) := by decide +kernel
theorem dX0_readMembers_73 : decode cX0_readMembers 73 = .ok (.getfield 164, 3) := by decide +kernel
theorem dX0_readMembers_76 : decode cX0_readMembers 76 = .ok (.new 129, 3) := by decide +kernel
theorem dX0_readMembers_79 : decode cX0_readMembers 79 = .ok (.dup, 1) := by decide +kernel
theorem dX0_readMembers_80 : decode cX0_readMembers 80 = .ok (.aload_n 0, 1) := by decide +kernel
theorem dX0_readMembers_81 : decode cX0_readMembers 81 = .ok (.getfield 25, 3) := by decide +kernel
theorem dX0_readMembers_84 : decode cX0_readMembers 84 = .ok (.aload_n 0, 1) := by decide +kernel
theorem dX0_readMembers_85 : decode cX0_readMembers 85 = .ok (.getfield 15, 3) := by decide +kernel
theorem dX0_readMembers_88 : decode cX0_readMembers 88 = .ok (.getfield 58, 3) := by decide +kernel
theorem dX0_readMembers_91 : decode cX0_readMembers 91 = .ok (.invokespecial 131, 3) := by decide +kernel
theorem dX0_readMembers_94 : decode cX0_readMembers 94 = .ok (.aastore, 1) := by decide +kernel
theorem dX0_readMembers_95 : decode cX0_readMembers 95 = .ok (.aload_n 1, 1) := by decide +kernel
theorem dX0_readMembers_96 : decode cX0_readMembers 96 = .ok (.dup, 1) := by decide +kernel
theorem dX0_readMembers_97 : decode cX0_readMembers 97 = .ok (.getfield 164, 3) := by decide +kernel
theorem dX0_readMembers_100 : decode cX0_readMembers 100 = .ok (.iconst 1, 1) := by decide +kernel
theorem dX0_readMembers_101 : decode cX0_readMembers 101 = .ok (.iadd, 1) := by decide +kernel
theorem dX0_readMembers_102 : decode cX0_readMembers 102 = .ok (.putfield 164, 3) := by decide +kernel
theorem dX0_readMembers_105 : decode cX0_readMembers 105 = .ok (.aload_n 0, 1) := by decide +kernel
theorem dX0_readMembers_106 : decode cX0_readMembers 106 = .ok (.getfield 15, 3) := by decide +kernel
theorem dX0_readMembers_109 : decode cX0_readMembers 109 = .ok (.dup, 1) := by decide +kernel
theorem dX0_readMembers_110 : decode cX0_readMembers 110 = .ok (.getfield 58, 3) := by decide +kernel
theorem dX0_readMembers_113 : decode cX0_readMembers 113 = .ok (.iconst 1, 1) := by decide +kernel
theorem dX0_readMembers_114 : decode cX0_readMembers 114 = .ok (.iadd, 1) := by decide +kernel
theorem dX0_readMembers_115 : decode cX0_readMembers 115 = .ok (.putfield 58, 3) := by decide +kernel
theorem dX0_readMembers_118 : decode cX0_readMembers 118 = .ok (.iinc 2 1, 3) := by decide +kernel
theorem dX0_readMembers_121 : decode cX0_readMembers 121 = .ok (.goto (-119), 3) := by decide +kernel
theorem dX0_readMembers_124 : decode cX0_readMembers 124 = .ok (.aload_n 1, 1) := by decide +kernel
theorem dX0_readMembers_125 : decode cX0_readMembers 125 = .ok (.invokevirtual 167, 3) := by decide +kernel
theorem dX0_readMembers_128 : decode cX0_readMembers 128 = .ok (.aload_n 1, 1) := by decide +kernel
theorem dX0_readMembers_129 : decode cX0_readMembers 129 = .ok (.getfield 164, 3) := by decide +kernel
theorem dX0_readMembers_132 : decode cX0_readMembers 132 = .ok (.iconst 2, 1) := by decide +kernel
theorem dX0_readMembers_133 : decode cX0_readMembers 133 = .ok (.if_icmp .ge 14, 3) := by decide +kernel
theorem dX0_readMembers_136 : decode cX0_readMembers 136 = .ok (.aload_n 0, 1) := by decide +kernel
theorem dX0_readMembers_137 : decode cX0_readMembers 137 = .ok (.getfield 15, 3) := by decide +kernel
theorem dX0_readMembers_140 : decode cX0_readMembers 140 = .ok (.iconst 1, 1) := by decide +kernel
theorem dX0_readMembers_141 : decode cX0_readMembers 141 = .ok (.invokevirtual 67, 3) := by decide +kernel
theorem dX0_readMembers_144 : decode cX0_readMembers 144 = .ok (.ifCond .eq 7, 3) := by decide +kernel
theorem dX0_readMembers_147 : decode cX0_readMembers 147 = .ok (.iconst 1, 1) := by decide +kernel
theorem dX0_readMembers_148 : decode cX0_readMembers 148 = .ok (.goto 4, 3) := by decide +kernel
theorem dX0_readMembers_151 : decode cX0_readMembers 151 = .ok (.iconst 0, 1) := by decide +kernel
theorem dX0_readMembers_152 : decode cX0_readMembers 152 = .ok (.ireturn, 1) := by decide +kernel
theorem dX10_isLetter_0 : decode cX10_isLetter 0 = .ok (.iload_n 0, 1) := by decide +kernel
theorem dX10_isLetter_1 : decode cX10_isLetter 1 = .ok (.bipush 97, 2) := by decide +kernel
theorem dX10_isLetter_3 : decode cX10_isLetter 3 = .ok (.if_icmp .lt 9, 3) := by decide +kernel
theorem dX10_isLetter_6 : decode cX10_isLetter 6 = .ok (.iload_n 0, 1) := by decide +kernel
theorem dX10_isLetter_7 : decode cX10_isLetter 7 = .ok (.bipush 122, 2) := by decide +kernel
theorem dX10_isLetter_9 : decode cX10_isLetter 9 = .ok (.if_icmp .le 15, 3) := by decide +kernel
theorem dX10_isLetter_12 : decode cX10_isLetter 12 = .ok (.iload_n 0, 1) := by decide +kernel
theorem dX10_isLetter_13 : decode cX10_isLetter 13 = .ok (.bipush 65, 2) := by decide +kernel
theorem dX10_isLetter_15 : decode cX10_isLetter 15 = .ok (.if_icmp .lt 13, 3) := by decide +kernel
theorem dX10_isLetter_18 : decode cX10_isLetter 18 = .ok (.iload_n 0, 1) := by decide +kernel
theorem dX10_isLetter_19 : decode cX10_isLetter 19 = .ok (.bipush 90, 2) := by decide +kernel
theorem dX10_isLetter_21 : decode cX10_isLetter 21 = .ok (.if_icmp .gt 7, 3) := by decide +kernel
theorem dX10_isLetter_24 : decode cX10_isLetter 24 = .ok (.iconst 1, 1) := by decide +kernel
theorem dX10_isLetter_25 : decode cX10_isLetter 25 = .ok (.goto 4, 3) := by decide +kernel
theorem dX10_isLetter_28 : decode cX10_isLetter 28 = .ok (.iconst 0, 1) := by decide +kernel
theorem dX10_isLetter_29 : decode cX10_isLetter 29 = .ok (.ireturn, 1) := by decide +kernel
theorem dX10_hasOnlyLetters_0 : decode cX10_hasOnlyLetters 0 = .ok (.aload_n 0, 1) := by decide +kernel
theorem dX10_hasOnlyLetters_1 : decode cX10_hasOnlyLetters 1 = .ok (.getfield 18, 3) := by decide +kernel
theorem dX10_hasOnlyLetters_4 : decode cX10_hasOnlyLetters 4 = .ok (.iload_n 1, 1) := by decide +kernel
theorem dX10_hasOnlyLetters_5 : decode cX10_hasOnlyLetters 5 = .ok (.iaload, 1) := by decide +kernel
theorem dX10_hasOnlyLetters_6 : decode cX10_hasOnlyLetters 6 = .ok (.istore_n 2, 1) := by decide +kernel
theorem dX10_hasOnlyLetters_7 : decode cX10_hasOnlyLetters 7 = .ok (.iload_n 2, 1) := by decide +kernel
theorem dX10_hasOnlyLetters_8 : decode cX10_hasOnlyLetters 8 = .ok (.aload_n 0, 1) := by decide +kernel
theorem dX10_hasOnlyLetters_9 : decode cX10_hasOnlyLetters 9 = .ok (.getfield 22, 3) := by decide +kernel
theorem dX10_hasOnlyLetters_12 : decode cX10_hasOnlyLetters 12 = .ok (.iload_n 1, 1) := by decide +kernel
theorem dX10_hasOnlyLetters_13 : decode cX10_hasOnlyLetters 13 = .ok (.iaload, 1) := by decide +kernel
theorem dX10_hasOnlyLetters_14 : decode cX10_hasOnlyLetters 14 = .ok (.if_icmp .ge 23, 3) := by decide +kernel
theorem dX10_hasOnlyLetters_17 : decode cX10_hasOnlyLetters 17 = .ok (.aload_n 0, 1) := by decide +kernel
theorem dX10_hasOnlyLetters_18 : decode cX10_hasOnlyLetters 18 = .ok (.getfield 9, 3) := by decide +kernel
theorem dX10_hasOnlyLetters_21 : decode cX10_hasOnlyLetters 21 = .ok (.iload_n 2, 1) := by decide +kernel
theorem dX10_hasOnlyLetters_22 : decode cX10_hasOnlyLetters 22 = .ok (.baload, 1) := by decide +kernel
theorem dX10_hasOnlyLetters_23 : decode cX10_hasOnlyLetters 23 = .ok (.invokestatic 86, 3) := by decide +kernel
theorem dX10_hasOnlyLetters_26 : decode cX10_hasOnlyLetters 26 = .ok (.ifCond .ne 5, 3) := by decide +kernel
theorem dX10_hasOnlyLetters_29 : decode cX10_hasOnlyLetters 29 = .ok (.iconst 0, 1) := by decide +kernel
theorem dX10_hasOnlyLetters_30 : decode cX10_hasOnlyLetters 30 = .ok (.ireturn, 1) := by decide +kernel
theorem dX10_hasOnlyLetters_31 : decode cX10_hasOnlyLetters 31 = .ok (.iinc 2 1, 3) := by decide +kernel
theorem dX10_hasOnlyLetters_34 : decode cX10_hasOnlyLetters 34 = .ok (.goto (-27), 3) := by decide +kernel
theorem dX10_hasOnlyLetters_37 : decode cX10_hasOnlyLetters 37 = .ok (.iconst 1, 1) := by decide +kernel
theorem dX10_hasOnlyLetters_38 : decode cX10_hasOnlyLetters 38 = .ok (.ireturn, 1) := by decide +kernel
theorem dX0_readRegisters_0 : decode cX0_readRegisters 0 = .ok (.aload_n 0, 1) := by decide +kernel
theorem dX0_readRegisters_1 : decode cX0_readRegisters 1 = .ok (.getfield 15, 3) := by decide +kernel
theorem dX0_readRegisters_4 : decode cX0_readRegisters 4 = .ok (.invokevirtual 117, 3) := by decide +kernel
theorem dX0_readRegisters_7 : decode cX0_readRegisters 7 = .ok (.ifCond .eq 20, 3) := by decide +kernel
theorem dX0_readRegisters_10 : decode cX0_readRegisters 10 = .ok (.aload_n 0, 1) := by decide +kernel
theorem dX0_readRegisters_11 : decode cX0_readRegisters 11 = .ok (.getfield 25, 3) := by decide +kernel
theorem dX0_readRegisters_14 : decode cX0_readRegisters 14 = .ok (.aload_n 0, 1) := by decide +kernel
theorem dX0_readRegisters_15 : decode cX0_readRegisters 15 = .ok (.getfield 15, 3) := by decide +kernel
theorem dX0_readRegisters_18 : decode cX0_readRegisters 18 = .ok (.getfield 58, 3) := by decide +kernel
theorem dX0_readRegisters_21 : decode cX0_readRegisters 21 = .ok (.invokevirtual 155, 3) := by decide +kernel
theorem dX0_readRegisters_24 : decode cX0_readRegisters 24 = .ok (.ifCond .ne 12, 3) := by decide +kernel
theorem dX0_readRegisters_27 : decode cX0_readRegisters 27 = .ok (.aload_n 0, 1) := by decide +kernel
theorem dX0_readRegisters_28 : decode cX0_readRegisters 28 = .ok (.getfield 15, 3) := by decide +kernel
theorem dX0_readRegisters_31 : decode cX0_readRegisters 31 = .ok (.iconst 1, 1) := by decide +kernel
theorem dX0_readRegisters_32 : decode cX0_readRegisters 32 = .ok (.invokevirtual 67, 3) := by decide +kernel
theorem dX0_readRegisters_35 : decode cX0_readRegisters 35 = .ok (.ireturn, 1) := by decide +kernel
theorem dX0_readRegisters_36 : decode cX0_readRegisters 36 = .ok (.aload_n 1, 1) := by decide +kernel
theorem dX0_readRegisters_37 : decode cX0_readRegisters 37 = .ok (.new 129, 3) := by decide +kernel
theorem dX0_readRegisters_40 : decode cX0_readRegisters 40 = .ok (.dup, 1) := by decide +kernel
theorem dX0_readRegisters_41 : decode cX0_readRegisters 41 = .ok (.aload_n 0, 1) := by decide +kernel
theorem dX0_readRegisters_42 : decode cX0_readRegisters 42 = .ok (.getfield 25, 3) := by decide +kernel
theorem dX0_readRegisters_45 : decode cX0_readRegisters 45 = .ok (.aload_n 0, 1) := by decide +kernel
theorem dX0_readRegisters_46 : decode cX0_readRegisters 46 = .ok (.getfield 15, 3) := by decide +kernel
theorem dX0_readRegisters_49 : decode cX0_readRegisters 49 = .ok (.getfield 58, 3) := by decide +kernel
theorem dX0_readRegisters_52 : decode cX0_readRegisters 52 = .ok (.invokespecial 131, 3) := by decide +kernel
theorem dX0_readRegisters_55 : decode cX0_readRegisters 55 = .ok (.putfield 158, 3) := by decide +kernel
theorem dX0_readRegisters_58 : decode cX0_readRegisters 58 = .ok (.aload_n 0, 1) := by decide +kernel
theorem dX0_readRegisters_59 : decode cX0_readRegisters 59 = .ok (.getfield 15, 3) := by decide +kernel
theorem dX0_readRegisters_62 : decode cX0_readRegisters 62 = .ok (.dup, 1) := by decide +kernel
theorem dX0_readRegisters_63 : decode cX0_readRegisters 63 = .ok (.getfield 58, 3) := by decide +kernel
theorem dX0_readRegisters_66 : decode cX0_readRegisters 66 = .ok (.iconst 1, 1) := by decide +kernel
theorem dX0_readRegisters_67 : decode cX0_readRegisters 67 = .ok (.iadd, 1) := by decide +kernel
theorem dX0_readRegisters_68 : decode cX0_readRegisters 68 = .ok (.putfield 58, 3) := by decide +kernel
theorem dX0_readRegisters_71 : decode cX0_readRegisters 71 = .ok (.aload_n 1, 1) := by decide +kernel
theorem dX0_readRegisters_72 : decode cX0_readRegisters 72 = .ok (.aload_n 0, 1) := by decide +kernel
theorem dX0_readRegisters_73 : decode cX0_readRegisters 73 = .ok (.getfield 15, 3) := by decide +kernel
theorem dX0_readRegisters_76 : decode cX0_readRegisters 76 = .ok (.lconst 1, 1) := by decide +kernel
theorem dX0_readRegisters_77 : decode cX0_readRegisters 77 = .ok (.ldc2_w 162, 3) := by decide +kernel
theorem dX0_readRegisters_80 : decode cX0_readRegisters 80 = .ok (.invokevirtual 73, 3) := by decide +kernel
theorem dX0_readRegisters_83 : decode cX0_readRegisters 83 = .ok (.l2i, 1) := by decide +kernel
theorem dX0_readRegisters_84 : decode cX0_readRegisters 84 = .ok (.putfield 164, 3) := by decide +kernel
theorem dX0_readRegisters_87 : decode cX0_readRegisters 87 = .ok (.aload_n 1, 1) := by decide +kernel
theorem dX0_readRegisters_88 : decode cX0_readRegisters 88 = .ok (.invokevirtual 167, 3) := by decide +kernel
theorem dX0_readRegisters_91 : decode cX0_readRegisters 91 = .ok (.aload_n 0, 1) := by decide +kernel
theorem dX0_readRegisters_92 : decode cX0_readRegisters 92 = .ok (.getfield 15, 3) := by decide +kernel
theorem dX0_readRegisters_95 : decode cX0_readRegisters 95 = .ok (.invokevirtual 55, 3) := by decide +kernel
theorem dX0_readRegisters_98 : decode cX0_readRegisters 98 = .ok (.ifCond .ne 7, 3) := by decide +kernel
theorem dX0_readRegisters_101 : decode cX0_readRegisters 101 = .ok (.iconst 1, 1) := by decide +kernel
theorem dX0_readRegisters_102 : decode cX0_readRegisters 102 = .ok (.goto 4, 3) := by decide +kernel
theorem dX0_readRegisters_105 : decode cX0_readRegisters 105 = .ok (.iconst 0, 1) := by decide +kernel
theorem dX0_readRegisters_106 : decode cX0_readRegisters 106 = .ok (.ireturn, 1) := by decide +kernel
theorem dX0_readRestOfKind_0 : decode cX0_readRestOfKind 0 = .ok (.aload_n 1, 1) := by decide +kernel
theorem dX0_readRestOfKind_1 : decode cX0_readRestOfKind 1 = .ok (.getfield 145, 3) := by decide +kernel
theorem dX0_readRestOfKind_4 : decode cX0_readRestOfKind 4 = .ok (.ifCond .ne 9, 3) := by decide +kernel
theorem dX0_readRestOfKind_7 : decode cX0_readRestOfKind 7 = .ok (.aload_n 0, 1) := by decide +kernel
theorem dX0_readRestOfKind_8 : decode cX0_readRestOfKind 8 = .ok (.aload_n 1, 1) := by decide +kernel
theorem dX0_readRestOfKind_9 : decode cX0_readRestOfKind 9 = .ok (.invokevirtual 148, 3) := by decide +kernel
theorem dX0_readRestOfKind_12 : decode cX0_readRestOfKind 12 = .ok (.ireturn, 1) := by decide +kernel
theorem dX0_readRestOfKind_13 : decode cX0_readRestOfKind 13 = .ok (.aload_n 1, 1) := by decide +kernel
theorem dX0_readRestOfKind_14 : decode cX0_readRestOfKind 14 = .ok (.getfield 145, 3) := by decide +kernel
theorem dX0_readRestOfKind_17 : decode cX0_readRestOfKind 17 = .ok (.iconst 4, 1) := by decide +kernel
theorem dX0_readRestOfKind_18 : decode cX0_readRestOfKind 18 = .ok (.if_icmp .ne 9, 3) := by decide +kernel
theorem dX0_readRestOfKind_21 : decode cX0_readRestOfKind 21 = .ok (.aload_n 0, 1) := by decide +kernel
theorem dX0_readRestOfKind_22 : decode cX0_readRestOfKind 22 = .ok (.aload_n 1, 1) := by decide +kernel
theorem dX0_readRestOfKind_23 : decode cX0_readRestOfKind 23 = .ok (.invokevirtual 151, 3) := by decide +kernel
theorem dX0_readRestOfKind_26 : decode cX0_readRestOfKind 26 = .ok (.ireturn, 1) := by decide +kernel
theorem dX0_readRestOfKind_27 : decode cX0_readRestOfKind 27 = .ok (.aload_n 1, 1) := by decide +kernel
theorem dX0_readRestOfKind_28 : decode cX0_readRestOfKind 28 = .ok (.aload_n 0, 1) := by decide +kernel
theorem dX0_readRestOfKind_29 : decode cX0_readRestOfKind 29 = .ok (.getfield 15, 3) := by decide +kernel
theorem dX0_readRestOfKind_32 : decode cX0_readRestOfKind 32 = .ok (.lconst 1, 1) := by decide +kernel
theorem dX0_readRestOfKind_33 : decode cX0_readRestOfKind 33 = .ok (.ldc2_w 81, 3) := by decide +kernel
theorem dX0_readRestOfKind_36 : decode cX0_readRestOfKind 36 = .ok (.invokevirtual 73, 3) := by decide +kernel
theorem dX0_readRestOfKind_39 : decode cX0_readRestOfKind 39 = .ok (.l2i, 1) := by decide +kernel
theorem dX0_readRestOfKind_40 : decode cX0_readRestOfKind 40 = .ok (.putfield 154, 3) := by decide +kernel
theorem dX0_readRestOfKind_43 : decode cX0_readRestOfKind 43 = .ok (.aload_n 0, 1) := by decide +kernel
theorem dX0_readRestOfKind_44 : decode cX0_readRestOfKind 44 = .ok (.getfield 15, 3) := by decide +kernel
theorem dX0_readRestOfKind_47 : decode cX0_readRestOfKind 47 = .ok (.invokevirtual 55, 3) := by decide +kernel
theorem dX0_readRestOfKind_50 : decode cX0_readRestOfKind 50 = .ok (.ifCond .ne 7, 3) := by decide +kernel
theorem dX0_readRestOfKind_53 : decode cX0_readRestOfKind 53 = .ok (.iconst 1, 1) := by decide +kernel
theorem dX0_readRestOfKind_54 : decode cX0_readRestOfKind 54 = .ok (.goto 4, 3) := by decide +kernel
theorem dX0_readRestOfKind_57 : decode cX0_readRestOfKind 57 = .ok (.iconst 0, 1) := by decide +kernel
theorem dX0_readRestOfKind_58 : decode cX0_readRestOfKind 58 = .ok (.ireturn, 1) := by decide +kernel
theorem dX9_isAt_0 : decode cX9_isAt 0 = .ok (.aload_n 0, 1) := by decide +kernel
theorem dX9_isAt_1 : decode cX9_isAt 1 = .ok (.getfield 18, 3) := by decide +kernel
theorem dX9_isAt_4 : decode cX9_isAt 4 = .ok (.getfield 38, 3) := by decide +kernel
theorem dX9_isAt_7 : decode cX9_isAt 7 = .ok (.aload_n 0, 1) := by decide +kernel
theorem dX9_isAt_8 : decode cX9_isAt 8 = .ok (.getfield 28, 3) := by decide +kernel
theorem dX9_isAt_11 : decode cX9_isAt 11 = .ok (.baload, 1) := by decide +kernel
theorem dX9_isAt_12 : decode cX9_isAt 12 = .ok (.iconst 3, 1) := by decide +kernel
theorem dX9_isAt_13 : decode cX9_isAt 13 = .ok (.if_icmp .ne 25, 3) := by decide +kernel
theorem dX9_isAt_16 : decode cX9_isAt 16 = .ok (.aload_n 0, 1) := by decide +kernel
theorem dX9_isAt_17 : decode cX9_isAt 17 = .ok (.getfield 18, 3) := by decide +kernel
theorem dX9_isAt_20 : decode cX9_isAt 20 = .ok (.getfield 42, 3) := by decide +kernel
theorem dX9_isAt_23 : decode cX9_isAt 23 = .ok (.aload_n 0, 1) := by decide +kernel
theorem dX9_isAt_24 : decode cX9_isAt 24 = .ok (.getfield 28, 3) := by decide +kernel
theorem dX9_isAt_27 : decode cX9_isAt 27 = .ok (.laload, 1) := by decide +kernel
theorem dX9_isAt_28 : decode cX9_isAt 28 = .ok (.iload_n 1, 1) := by decide +kernel
theorem dX9_isAt_29 : decode cX9_isAt 29 = .ok (.i2l, 1) := by decide +kernel
theorem dX9_isAt_30 : decode cX9_isAt 30 = .ok (.lcmp, 1) := by decide +kernel
theorem dX9_isAt_31 : decode cX9_isAt 31 = .ok (.ifCond .ne 7, 3) := by decide +kernel
theorem dX9_isAt_34 : decode cX9_isAt 34 = .ok (.iconst 1, 1) := by decide +kernel
theorem dX9_isAt_35 : decode cX9_isAt 35 = .ok (.goto 4, 3) := by decide +kernel
theorem dX9_isAt_38 : decode cX9_isAt 38 = .ok (.iconst 0, 1) := by decide +kernel
theorem dX9_isAt_39 : decode cX9_isAt 39 = .ok (.ireturn, 1) := by decide +kernel
theorem dX9_take_0 : decode cX9_take 0 = .ok (.aload_n 0, 1) := by decide +kernel
theorem dX9_take_1 : decode cX9_take 1 = .ok (.iload_n 1, 1) := by decide +kernel
theorem dX9_take_2 : decode cX9_take 2 = .ok (.invokevirtual 46, 3) := by decide +kernel
theorem dX9_take_5 : decode cX9_take 5 = .ok (.ifCond .ne 9, 3) := by decide +kernel
theorem dX9_take_8 : decode cX9_take 8 = .ok (.aload_n 0, 1) := by decide +kernel
theorem dX9_take_9 : decode cX9_take 9 = .ok (.iconst 1, 1) := by decide +kernel
theorem dX9_take_10 : decode cX9_take 10 = .ok (.invokevirtual 50, 3) := by decide +kernel
theorem dX9_take_13 : decode cX9_take 13 = .ok (.ireturn, 1) := by decide +kernel
theorem dX9_take_14 : decode cX9_take 14 = .ok (.aload_n 0, 1) := by decide +kernel
theorem dX9_take_15 : decode cX9_take 15 = .ok (.dup, 1) := by decide +kernel
theorem dX9_take_16 : decode cX9_take 16 = .ok (.getfield 28, 3) := by decide +kernel
theorem dX9_take_19 : decode cX9_take 19 = .ok (.iconst 1, 1) := by decide +kernel
theorem dX9_take_20 : decode cX9_take 20 = .ok (.iadd, 1) := by decide +kernel
theorem dX9_take_21 : decode cX9_take 21 = .ok (.putfield 28, 3) := by decide +kernel
theorem dX9_take_24 : decode cX9_take 24 = .ok (.iconst 1, 1) := by decide +kernel
theorem dX9_take_25 : decode cX9_take 25 = .ok (.ireturn, 1) := by decide +kernel
theorem dX5_addKind_0 : decode cX5_addKind 0 = .ok (.aload_n 0, 1) := by decide +kernel
theorem dX5_addKind_1 : decode cX5_addKind 1 = .ok (.getfield 11, 3) := by decide +kernel
theorem dX5_addKind_4 : decode cX5_addKind 4 = .ok (.aload_n 0, 1) := by decide +kernel
theorem dX5_addKind_5 : decode cX5_addKind 5 = .ok (.getfield 27, 3) := by decide +kernel
theorem dX5_addKind_8 : decode cX5_addKind 8 = .ok (.aload_n 1, 1) := by decide +kernel
theorem dX5_addKind_9 : decode cX5_addKind 9 = .ok (.aastore, 1) := by decide +kernel
theorem dX5_addKind_10 : decode cX5_addKind 10 = .ok (.aload_n 0, 1) := by decide +kernel
theorem dX5_addKind_11 : decode cX5_addKind 11 = .ok (.dup, 1) := by decide +kernel
theorem dX5_addKind_12 : decode cX5_addKind 12 = .ok (.getfield 27, 3) := by decide +kernel
theorem dX5_addKind_15 : decode cX5_addKind 15 = .ok (.iconst 1, 1) := by decide +kernel
theorem dX5_addKind_16 : decode cX5_addKind 16 = .ok (.iadd, 1) := by decide +kernel
theorem dX5_addKind_17 : decode cX5_addKind 17 = .ok (.putfield 27, 3) := by decide +kernel
theorem dX5_addKind_20 : decode cX5_addKind 20 = .ok (.return_, 1) := by decide +kernel
theorem dX0_readKind_0 : decode cX0_readKind 0 = .ok (.aload_n 0, 1) := by decide +kernel
theorem dX0_readKind_1 : decode cX0_readKind 1 = .ok (.getfield 15, 3) := by decide +kernel
theorem dX0_readKind_4 : decode cX0_readKind 4 = .ok (.invokevirtual 117, 3) := by decide +kernel
theorem dX0_readKind_7 : decode cX0_readKind 7 = .ok (.ifCond .ne 15, 3) := by decide +kernel
theorem dX0_readKind_10 : decode cX0_readKind 10 = .ok (.aload_n 0, 1) := by decide +kernel
theorem dX0_readKind_11 : decode cX0_readKind 11 = .ok (.getfield 15, 3) := by decide +kernel
theorem dX0_readKind_14 : decode cX0_readKind 14 = .ok (.iconst 1, 1) := by decide +kernel
theorem dX0_readKind_15 : decode cX0_readKind 15 = .ok (.invokevirtual 67, 3) := by decide +kernel
theorem dX0_readKind_18 : decode cX0_readKind 18 = .ok (.pop, 1) := by decide +kernel
theorem dX0_readKind_19 : decode cX0_readKind 19 = .ok (.goto 128, 3) := by decide +kernel
theorem dX0_readKind_22 : decode cX0_readKind 22 = .ok (.aload_n 0, 1) := by decide +kernel
theorem dX0_readKind_23 : decode cX0_readKind 23 = .ok (.getfield 26, 3) := by decide +kernel
theorem dX0_readKind_26 : decode cX0_readKind 26 = .ok (.aload_n 0, 1) := by decide +kernel
theorem dX0_readKind_27 : decode cX0_readKind 27 = .ok (.getfield 25, 3) := by decide +kernel
theorem dX0_readKind_30 : decode cX0_readKind 30 = .ok (.aload_n 0, 1) := by decide +kernel
theorem dX0_readKind_31 : decode cX0_readKind 31 = .ok (.getfield 15, 3) := by decide +kernel
theorem dX0_readKind_34 : decode cX0_readKind 34 = .ok (.getfield 58, 3) := by decide +kernel
theorem dX0_readKind_37 : decode cX0_readKind 37 = .ok (.invokevirtual 120, 3) := by decide +kernel
theorem dX0_readKind_40 : decode cX0_readKind 40 = .ok (.ifnull 15, 3) := by decide +kernel
theorem dX0_readKind_43 : decode cX0_readKind 43 = .ok (.aload_n 0, 1) := by decide +kernel
theorem dX0_readKind_44 : decode cX0_readKind 44 = .ok (.getfield 15, 3) := by decide +kernel
theorem dX0_readKind_47 : decode cX0_readKind 47 = .ok (.iconst 2, 1) := by decide +kernel
theorem dX0_readKind_48 : decode cX0_readKind 48 = .ok (.invokevirtual 67, 3) := by decide +kernel
theorem dX0_readKind_51 : decode cX0_readKind 51 = .ok (.pop, 1) := by decide +kernel
theorem dX0_readKind_52 : decode cX0_readKind 52 = .ok (.goto 95, 3) := by decide +kernel
theorem dX0_readKind_55 : decode cX0_readKind 55 = .ok (.aload_n 0, 1) := by decide +kernel
theorem dX0_readKind_56 : decode cX0_readKind 56 = .ok (.getfield 26, 3) := by decide +kernel
theorem dX0_readKind_59 : decode cX0_readKind 59 = .ok (.getfield 124, 3) := by decide +kernel
theorem dX0_readKind_62 : decode cX0_readKind 62 = .ok (.bipush 40, 2) := by decide +kernel
theorem dX0_readKind_64 : decode cX0_readKind 64 = .ok (.if_icmp .ne 15, 3) := by decide +kernel
theorem dX0_readKind_67 : decode cX0_readKind 67 = .ok (.aload_n 0, 1) := by decide +kernel
theorem dX0_readKind_68 : decode cX0_readKind 68 = .ok (.getfield 15, 3) := by decide +kernel
theorem dX0_readKind_71 : decode cX0_readKind 71 = .ok (.iconst 3, 1) := by decide +kernel
theorem dX0_readKind_72 : decode cX0_readKind 72 = .ok (.invokevirtual 67, 3) := by decide +kernel
theorem dX0_readKind_75 : decode cX0_readKind 75 = .ok (.pop, 1) := by decide +kernel
theorem dX0_readKind_76 : decode cX0_readKind 76 = .ok (.goto 71, 3) := by decide +kernel
theorem dX0_readKind_79 : decode cX0_readKind 79 = .ok (.new 127, 3) := by decide +kernel
theorem dX0_readKind_82 : decode cX0_readKind 82 = .ok (.dup, 1) := by decide +kernel
theorem dX0_readKind_83 : decode cX0_readKind 83 = .ok (.iload_n 1, 1) := by decide +kernel
theorem dX0_readKind_84 : decode cX0_readKind 84 = .ok (.new 129, 3) := by decide +kernel
theorem dX0_readKind_87 : decode cX0_readKind 87 = .ok (.dup, 1) := by decide +kernel
theorem dX0_readKind_88 : decode cX0_readKind 88 = .ok (.aload_n 0, 1) := by decide +kernel
theorem dX0_readKind_89 : decode cX0_readKind 89 = .ok (.getfield 25, 3) := by decide +kernel
theorem dX0_readKind_92 : decode cX0_readKind 92 = .ok (.aload_n 0, 1) := by decide +kernel
theorem dX0_readKind_93 : decode cX0_readKind 93 = .ok (.getfield 15, 3) := by decide +kernel
theorem dX0_readKind_96 : decode cX0_readKind 96 = .ok (.getfield 58, 3) := by decide +kernel
theorem dX0_readKind_99 : decode cX0_readKind 99 = .ok (.invokespecial 131, 3) := by decide +kernel
theorem dX0_readKind_102 : decode cX0_readKind 102 = .ok (.invokespecial 134, 3) := by decide +kernel
theorem dX0_readKind_105 : decode cX0_readKind 105 = .ok (.astore_n 2, 1) := by decide +kernel
theorem dX0_readKind_106 : decode cX0_readKind 106 = .ok (.aload_n 0, 1) := by decide +kernel
theorem dX0_readKind_107 : decode cX0_readKind 107 = .ok (.getfield 15, 3) := by decide +kernel
theorem dX0_readKind_110 : decode cX0_readKind 110 = .ok (.dup, 1) := by decide +kernel
theorem dX0_readKind_111 : decode cX0_readKind 111 = .ok (.getfield 58, 3) := by decide +kernel
theorem dX0_readKind_114 : decode cX0_readKind 114 = .ok (.iconst 1, 1) := by decide +kernel
theorem dX0_readKind_115 : decode cX0_readKind 115 = .ok (.iadd, 1) := by decide +kernel
theorem dX0_readKind_116 : decode cX0_readKind 116 = .ok (.putfield 58, 3) := by decide +kernel
theorem dX0_readKind_119 : decode cX0_readKind 119 = .ok (.aload_n 0, 1) := by decide +kernel
theorem dX0_readKind_120 : decode cX0_readKind 120 = .ok (.aload_n 2, 1) := by decide +kernel
theorem dX0_readKind_121 : decode cX0_readKind 121 = .ok (.invokevirtual 137, 3) := by decide +kernel
theorem dX0_readKind_124 : decode cX0_readKind 124 = .ok (.ifCond .eq 23, 3) := by decide +kernel
theorem dX0_readKind_127 : decode cX0_readKind 127 = .ok (.aload_n 0, 1) := by decide +kernel
theorem dX0_readKind_128 : decode cX0_readKind 128 = .ok (.getfield 15, 3) := by decide +kernel
theorem dX0_readKind_131 : decode cX0_readKind 131 = .ok (.bipush 59, 2) := by decide +kernel
theorem dX0_readKind_133 : decode cX0_readKind 133 = .ok (.invokevirtual 87, 3) := by decide +kernel
theorem dX0_readKind_136 : decode cX0_readKind 136 = .ok (.ifCond .eq 11, 3) := by decide +kernel
theorem dX0_readKind_139 : decode cX0_readKind 139 = .ok (.aload_n 0, 1) := by decide +kernel
theorem dX0_readKind_140 : decode cX0_readKind 140 = .ok (.getfield 26, 3) := by decide +kernel
theorem dX0_readKind_143 : decode cX0_readKind 143 = .ok (.aload_n 2, 1) := by decide +kernel
theorem dX0_readKind_144 : decode cX0_readKind 144 = .ok (.invokevirtual 141, 3) := by decide +kernel
theorem dX0_readKind_147 : decode cX0_readKind 147 = .ok (.return_, 1) := by decide +kernel
theorem dX0_hasEachBitOnce_0 : decode cX0_hasEachBitOnce 0 = .ok (.aload_n 0, 1) := by decide +kernel
theorem dX0_hasEachBitOnce_1 : decode cX0_hasEachBitOnce 1 = .ok (.getfield 250, 3) := by decide +kernel
theorem dX0_hasEachBitOnce_4 : decode cX0_hasEachBitOnce 4 = .ok (.ifCond .ne 7, 3) := by decide +kernel
theorem dX0_hasEachBitOnce_7 : decode cX0_hasEachBitOnce 7 = .ok (.iconst 1, 1) := by decide +kernel
theorem dX0_hasEachBitOnce_8 : decode cX0_hasEachBitOnce 8 = .ok (.goto 4, 3) := by decide +kernel
theorem dX0_hasEachBitOnce_11 : decode cX0_hasEachBitOnce 11 = .ok (.iconst 0, 1) := by decide +kernel
theorem dX0_hasEachBitOnce_12 : decode cX0_hasEachBitOnce 12 = .ok (.istore_n 1, 1) := by decide +kernel
theorem dX0_hasEachBitOnce_13 : decode cX0_hasEachBitOnce 13 = .ok (.iconst 0, 1) := by decide +kernel
theorem dX0_hasEachBitOnce_14 : decode cX0_hasEachBitOnce 14 = .ok (.istore_n 2, 1) := by decide +kernel
theorem dX0_hasEachBitOnce_15 : decode cX0_hasEachBitOnce 15 = .ok (.iload_n 2, 1) := by decide +kernel
theorem dX0_hasEachBitOnce_16 : decode cX0_hasEachBitOnce 16 = .ok (.aload_n 0, 1) := by decide +kernel
theorem dX0_hasEachBitOnce_17 : decode cX0_hasEachBitOnce 17 = .ok (.getfield 186, 3) := by decide +kernel
theorem dX0_hasEachBitOnce_20 : decode cX0_hasEachBitOnce 20 = .ok (.getfield 209, 3) := by decide +kernel
theorem dX0_hasEachBitOnce_23 : decode cX0_hasEachBitOnce 23 = .ok (.if_icmp .ge 43, 3) := by decide +kernel
theorem dX0_hasEachBitOnce_26 : decode cX0_hasEachBitOnce 26 = .ok (.iload_n 1, 1) := by decide +kernel
theorem dX0_hasEachBitOnce_27 : decode cX0_hasEachBitOnce 27 = .ok (.aload_n 0, 1) := by decide +kernel
theorem dX0_hasEachBitOnce_28 : decode cX0_hasEachBitOnce 28 = .ok (.getfield 9, 3) := by decide +kernel
theorem dX0_hasEachBitOnce_31 : decode cX0_hasEachBitOnce 31 = .ok (.iload_n 2, 1) := by decide +kernel
theorem dX0_hasEachBitOnce_32 : decode cX0_hasEachBitOnce 32 = .ok (.laload, 1) := by decide +kernel
theorem dX0_hasEachBitOnce_33 : decode cX0_hasEachBitOnce 33 = .ok (.lconst 1, 1) := by decide +kernel
theorem dX0_hasEachBitOnce_34 : decode cX0_hasEachBitOnce 34 = .ok (.aload_n 0, 1) := by decide +kernel
theorem dX0_hasEachBitOnce_35 : decode cX0_hasEachBitOnce 35 = .ok (.getfield 186, 3) := by decide +kernel
theorem dX0_hasEachBitOnce_38 : decode cX0_hasEachBitOnce 38 = .ok (.getfield 269, 3) := by decide +kernel
theorem dX0_hasEachBitOnce_41 : decode cX0_hasEachBitOnce 41 = .ok (.iload_n 2, 1) := by decide +kernel
theorem dX0_hasEachBitOnce_42 : decode cX0_hasEachBitOnce 42 = .ok (.aaload, 1) := by decide +kernel
theorem dX0_hasEachBitOnce_43 : decode cX0_hasEachBitOnce 43 = .ok (.getfield 154, 3) := by decide +kernel
theorem dX0_hasEachBitOnce_46 : decode cX0_hasEachBitOnce 46 = .ok (.lshl, 1) := by decide +kernel
theorem dX0_hasEachBitOnce_47 : decode cX0_hasEachBitOnce 47 = .ok (.lconst 1, 1) := by decide +kernel
theorem dX0_hasEachBitOnce_48 : decode cX0_hasEachBitOnce 48 = .ok (.lsub, 1) := by decide +kernel
theorem dX0_hasEachBitOnce_49 : decode cX0_hasEachBitOnce 49 = .ok (.lcmp, 1) := by decide +kernel
theorem dX0_hasEachBitOnce_50 : decode cX0_hasEachBitOnce 50 = .ok (.ifCond .ne 7, 3) := by decide +kernel
theorem dX0_hasEachBitOnce_53 : decode cX0_hasEachBitOnce 53 = .ok (.iconst 1, 1) := by decide +kernel
theorem dX0_hasEachBitOnce_54 : decode cX0_hasEachBitOnce 54 = .ok (.goto 4, 3) := by decide +kernel
theorem dX0_hasEachBitOnce_57 : decode cX0_hasEachBitOnce 57 = .ok (.iconst 0, 1) := by decide +kernel
theorem dX0_hasEachBitOnce_58 : decode cX0_hasEachBitOnce 58 = .ok (.iand, 1) := by decide +kernel
theorem dX0_hasEachBitOnce_59 : decode cX0_hasEachBitOnce 59 = .ok (.istore_n 1, 1) := by decide +kernel
theorem dX0_hasEachBitOnce_60 : decode cX0_hasEachBitOnce 60 = .ok (.iinc 2 1, 3) := by decide +kernel
theorem dX0_hasEachBitOnce_63 : decode cX0_hasEachBitOnce 63 = .ok (.goto (-48), 3) := by decide +kernel
theorem dX0_hasEachBitOnce_66 : decode cX0_hasEachBitOnce 66 = .ok (.iload_n 1, 1) := by decide +kernel
theorem dX0_hasEachBitOnce_67 : decode cX0_hasEachBitOnce 67 = .ok (.ireturn, 1) := by decide +kernel
theorem dX0_closeWord_0 : decode cX0_closeWord 0 = .ok (.iload_n 1, 1) := by decide +kernel
theorem dX0_closeWord_1 : decode cX0_closeWord 1 = .ok (.ifCond .eq 28, 3) := by decide +kernel
theorem dX0_closeWord_4 : decode cX0_closeWord 4 = .ok (.aload_n 0, 1) := by decide +kernel
theorem dX0_closeWord_5 : decode cX0_closeWord 5 = .ok (.getfield 186, 3) := by decide +kernel
theorem dX0_closeWord_8 : decode cX0_closeWord 8 = .ok (.getfield 263, 3) := by decide +kernel
theorem dX0_closeWord_11 : decode cX0_closeWord 11 = .ok (.iconst 1, 1) := by decide +kernel
theorem dX0_closeWord_12 : decode cX0_closeWord 12 = .ok (.iadd, 1) := by decide +kernel
theorem dX0_closeWord_13 : decode cX0_closeWord 13 = .ok (.iconst 4, 1) := by decide +kernel
theorem dX0_closeWord_14 : decode cX0_closeWord 14 = .ok (.if_icmp .ne 15, 3) := by decide +kernel
theorem dX0_closeWord_17 : decode cX0_closeWord 17 = .ok (.aload_n 0, 1) := by decide +kernel
theorem dX0_closeWord_18 : decode cX0_closeWord 18 = .ok (.getfield 15, 3) := by decide +kernel
theorem dX0_closeWord_21 : decode cX0_closeWord 21 = .ok (.iconst 3, 1) := by decide +kernel
theorem dX0_closeWord_22 : decode cX0_closeWord 22 = .ok (.invokevirtual 67, 3) := by decide +kernel
theorem dX0_closeWord_25 : decode cX0_closeWord 25 = .ok (.pop, 1) := by decide +kernel
theorem dX0_closeWord_26 : decode cX0_closeWord 26 = .ok (.goto 83, 3) := by decide +kernel
theorem dX0_closeWord_29 : decode cX0_closeWord 29 = .ok (.aload_n 0, 1) := by decide +kernel
theorem dX0_closeWord_30 : decode cX0_closeWord 30 = .ok (.getfield 241, 3) := by decide +kernel
theorem dX0_closeWord_33 : decode cX0_closeWord 33 = .ok (.aload_n 0, 1) := by decide +kernel
theorem dX0_closeWord_34 : decode cX0_closeWord 34 = .ok (.getfield 26, 3) := by decide +kernel
theorem dX0_closeWord_37 : decode cX0_closeWord 37 = .ok (.getfield 91, 3) := by decide +kernel
theorem dX0_closeWord_40 : decode cX0_closeWord 40 = .ok (.if_icmp .eq 15, 3) := by decide +kernel
theorem dX0_closeWord_43 : decode cX0_closeWord 43 = .ok (.aload_n 0, 1) := by decide +kernel
theorem dX0_closeWord_44 : decode cX0_closeWord 44 = .ok (.getfield 15, 3) := by decide +kernel
theorem dX0_closeWord_47 : decode cX0_closeWord 47 = .ok (.iconst 4, 1) := by decide +kernel
theorem dX0_closeWord_48 : decode cX0_closeWord 48 = .ok (.invokevirtual 67, 3) := by decide +kernel
theorem dX0_closeWord_51 : decode cX0_closeWord 51 = .ok (.pop, 1) := by decide +kernel
theorem dX0_closeWord_52 : decode cX0_closeWord 52 = .ok (.goto 57, 3) := by decide +kernel
theorem dX0_closeWord_55 : decode cX0_closeWord 55 = .ok (.iload_n 1, 1) := by decide +kernel
theorem dX0_closeWord_56 : decode cX0_closeWord 56 = .ok (.ifCond .ne 22, 3) := by decide +kernel
theorem dX0_closeWord_59 : decode cX0_closeWord 59 = .ok (.aload_n 0, 1) := by decide +kernel
theorem dX0_closeWord_60 : decode cX0_closeWord 60 = .ok (.invokevirtual 266, 3) := by decide +kernel
theorem dX0_closeWord_63 : decode cX0_closeWord 63 = .ok (.ifCond .ne 15, 3) := by decide +kernel
theorem dX0_closeWord_66 : decode cX0_closeWord 66 = .ok (.aload_n 0, 1) := by decide +kernel
theorem dX0_closeWord_67 : decode cX0_closeWord 67 = .ok (.getfield 15, 3) := by decide +kernel
theorem dX0_closeWord_70 : decode cX0_closeWord 70 = .ok (.iconst 5, 1) := by decide +kernel
theorem dX0_closeWord_71 : decode cX0_closeWord 71 = .ok (.invokevirtual 67, 3) := by decide +kernel
theorem dX0_closeWord_74 : decode cX0_closeWord 74 = .ok (.pop, 1) := by decide +kernel
theorem dX0_closeWord_75 : decode cX0_closeWord 75 = .ok (.goto 34, 3) := by decide +kernel
theorem dX0_closeWord_78 : decode cX0_closeWord 78 = .ok (.aload_n 0, 1) := by decide +kernel
theorem dX0_closeWord_79 : decode cX0_closeWord 79 = .ok (.getfield 186, 3) := by decide +kernel
theorem dX0_closeWord_82 : decode cX0_closeWord 82 = .ok (.dup, 1) := by decide +kernel
theorem dX0_closeWord_83 : decode cX0_closeWord 83 = .ok (.getfield 263, 3) := by decide +kernel
theorem dX0_closeWord_86 : decode cX0_closeWord 86 = .ok (.iconst 1, 1) := by decide +kernel
theorem dX0_closeWord_87 : decode cX0_closeWord 87 = .ok (.iadd, 1) := by decide +kernel
theorem dX0_closeWord_88 : decode cX0_closeWord 88 = .ok (.putfield 263, 3) := by decide +kernel
theorem dX0_closeWord_91 : decode cX0_closeWord 91 = .ok (.aload_n 0, 1) := by decide +kernel
theorem dX0_closeWord_92 : decode cX0_closeWord 92 = .ok (.iconst 0, 1) := by decide +kernel
theorem dX0_closeWord_93 : decode cX0_closeWord 93 = .ok (.putfield 241, 3) := by decide +kernel
theorem dX0_closeWord_96 : decode cX0_closeWord 96 = .ok (.aload_n 0, 1) := by decide +kernel
theorem dX0_closeWord_97 : decode cX0_closeWord 97 = .ok (.getfield 15, 3) := by decide +kernel
theorem dX0_closeWord_100 : decode cX0_closeWord 100 = .ok (.dup, 1) := by decide +kernel
theorem dX0_closeWord_101 : decode cX0_closeWord 101 = .ok (.getfield 58, 3) := by decide +kernel
theorem dX0_closeWord_104 : decode cX0_closeWord 104 = .ok (.iconst 1, 1) := by decide +kernel
theorem dX0_closeWord_105 : decode cX0_closeWord 105 = .ok (.iadd, 1) := by decide +kernel
theorem dX0_closeWord_106 : decode cX0_closeWord 106 = .ok (.putfield 58, 3) := by decide +kernel
theorem dX0_closeWord_109 : decode cX0_closeWord 109 = .ok (.return_, 1) := by decide +kernel
theorem dX1_putOperandBit_0 : decode cX1_putOperandBit 0 = .ok (.aload_n 0, 1) := by decide +kernel
theorem dX1_putOperandBit_1 : decode cX1_putOperandBit 1 = .ok (.getfield 34, 3) := by decide +kernel
theorem dX1_putOperandBit_4 : decode cX1_putOperandBit 4 = .ok (.aload_n 0, 1) := by decide +kernel
theorem dX1_putOperandBit_5 : decode cX1_putOperandBit 5 = .ok (.getfield 56, 3) := by decide +kernel
theorem dX1_putOperandBit_8 : decode cX1_putOperandBit 8 = .ok (.bipush 32, 2) := by decide +kernel
theorem dX1_putOperandBit_10 : decode cX1_putOperandBit 10 = .ok (.imul, 1) := by decide +kernel
theorem dX1_putOperandBit_11 : decode cX1_putOperandBit 11 = .ok (.iload_n 1, 1) := by decide +kernel
theorem dX1_putOperandBit_12 : decode cX1_putOperandBit 12 = .ok (.iadd, 1) := by decide +kernel
theorem dX1_putOperandBit_13 : decode cX1_putOperandBit 13 = .ok (.iconst 1, 1) := by decide +kernel
theorem dX1_putOperandBit_14 : decode cX1_putOperandBit 14 = .ok (.iload_n 2, 1) := by decide +kernel
theorem dX1_putOperandBit_15 : decode cX1_putOperandBit 15 = .ok (.bipush 32, 2) := by decide +kernel
theorem dX1_putOperandBit_17 : decode cX1_putOperandBit 17 = .ok (.imul, 1) := by decide +kernel
theorem dX1_putOperandBit_18 : decode cX1_putOperandBit 18 = .ok (.iadd, 1) := by decide +kernel
theorem dX1_putOperandBit_19 : decode cX1_putOperandBit 19 = .ok (.iload_n 3, 1) := by decide +kernel
theorem dX1_putOperandBit_20 : decode cX1_putOperandBit 20 = .ok (.iadd, 1) := by decide +kernel
theorem dX1_putOperandBit_21 : decode cX1_putOperandBit 21 = .ok (.iastore, 1) := by decide +kernel
theorem dX1_putOperandBit_22 : decode cX1_putOperandBit 22 = .ok (.return_, 1) := by decide +kernel
theorem dX0_putPiece_0 : decode cX0_putPiece 0 = .ok (.iload_n 2, 1) := by decide +kernel
theorem dX0_putPiece_1 : decode cX0_putPiece 1 = .ok (.istore 4, 2) := by decide +kernel
theorem dX0_putPiece_3 : decode cX0_putPiece 3 = .ok (.iload 4, 2) := by decide +kernel
theorem dX0_putPiece_5 : decode cX0_putPiece 5 = .ok (.iload_n 3, 1) := by decide +kernel
theorem dX0_putPiece_6 : decode cX0_putPiece 6 = .ok (.if_icmp .lt 100, 3) := by decide +kernel
theorem dX0_putPiece_9 : decode cX0_putPiece 9 = .ok (.aload_n 0, 1) := by decide +kernel
theorem dX0_putPiece_10 : decode cX0_putPiece 10 = .ok (.getfield 241, 3) := by decide +kernel
theorem dX0_putPiece_13 : decode cX0_putPiece 13 = .ok (.aload_n 0, 1) := by decide +kernel
theorem dX0_putPiece_14 : decode cX0_putPiece 14 = .ok (.getfield 26, 3) := by decide +kernel
theorem dX0_putPiece_17 : decode cX0_putPiece 17 = .ok (.getfield 91, 3) := by decide +kernel
theorem dX0_putPiece_20 : decode cX0_putPiece 20 = .ok (.if_icmp .ge 27, 3) := by decide +kernel
theorem dX0_putPiece_23 : decode cX0_putPiece 23 = .ok (.aload_n 0, 1) := by decide +kernel
theorem dX0_putPiece_24 : decode cX0_putPiece 24 = .ok (.getfield 186, 3) := by decide +kernel
theorem dX0_putPiece_27 : decode cX0_putPiece 27 = .ok (.aload_n 0, 1) := by decide +kernel
theorem dX0_putPiece_28 : decode cX0_putPiece 28 = .ok (.getfield 26, 3) := by decide +kernel
theorem dX0_putPiece_31 : decode cX0_putPiece 31 = .ok (.getfield 91, 3) := by decide +kernel
theorem dX0_putPiece_34 : decode cX0_putPiece 34 = .ok (.iconst 1, 1) := by decide +kernel
theorem dX0_putPiece_35 : decode cX0_putPiece 35 = .ok (.isub, 1) := by decide +kernel
theorem dX0_putPiece_36 : decode cX0_putPiece 36 = .ok (.aload_n 0, 1) := by decide +kernel
theorem dX0_putPiece_37 : decode cX0_putPiece 37 = .ok (.getfield 241, 3) := by decide +kernel
theorem dX0_putPiece_40 : decode cX0_putPiece 40 = .ok (.isub, 1) := by decide +kernel
theorem dX0_putPiece_41 : decode cX0_putPiece 41 = .ok (.iload_n 1, 1) := by decide +kernel
theorem dX0_putPiece_42 : decode cX0_putPiece 42 = .ok (.iload 4, 2) := by decide +kernel
theorem dX0_putPiece_44 : decode cX0_putPiece 44 = .ok (.invokevirtual 293, 3) := by decide +kernel
theorem dX0_putPiece_47 : decode cX0_putPiece 47 = .ok (.aload_n 0, 1) := by decide +kernel
theorem dX0_putPiece_48 : decode cX0_putPiece 48 = .ok (.dup, 1) := by decide +kernel
theorem dX0_putPiece_49 : decode cX0_putPiece 49 = .ok (.getfield 250, 3) := by decide +kernel
theorem dX0_putPiece_52 : decode cX0_putPiece 52 = .ok (.aload_n 0, 1) := by decide +kernel
theorem dX0_putPiece_53 : decode cX0_putPiece 53 = .ok (.getfield 9, 3) := by decide +kernel
theorem dX0_putPiece_56 : decode cX0_putPiece 56 = .ok (.iload_n 1, 1) := by decide +kernel
theorem dX0_putPiece_57 : decode cX0_putPiece 57 = .ok (.laload, 1) := by decide +kernel
theorem dX0_putPiece_58 : decode cX0_putPiece 58 = .ok (.iload 4, 2) := by decide +kernel
theorem dX0_putPiece_60 : decode cX0_putPiece 60 = .ok (.lshr, 1) := by decide +kernel
theorem dX0_putPiece_61 : decode cX0_putPiece 61 = .ok (.lconst 1, 1) := by decide +kernel
theorem dX0_putPiece_62 : decode cX0_putPiece 62 = .ok (.land, 1) := by decide +kernel
theorem dX0_putPiece_63 : decode cX0_putPiece 63 = .ok (.lconst 0, 1) := by decide +kernel
theorem dX0_putPiece_64 : decode cX0_putPiece 64 = .ok (.lcmp, 1) := by decide +kernel
theorem dX0_putPiece_65 : decode cX0_putPiece 65 = .ok (.ifCond .eq 7, 3) := by decide +kernel
theorem dX0_putPiece_68 : decode cX0_putPiece 68 = .ok (.iconst 1, 1) := by decide +kernel
theorem dX0_putPiece_69 : decode cX0_putPiece 69 = .ok (.goto 4, 3) := by decide +kernel
theorem dX0_putPiece_72 : decode cX0_putPiece 72 = .ok (.iconst 0, 1) := by decide +kernel
theorem dX0_putPiece_73 : decode cX0_putPiece 73 = .ok (.ior, 1) := by decide +kernel
theorem dX0_putPiece_74 : decode cX0_putPiece 74 = .ok (.putfield 250, 3) := by decide +kernel
theorem dX0_putPiece_77 : decode cX0_putPiece 77 = .ok (.aload_n 0, 1) := by decide +kernel
theorem dX0_putPiece_78 : decode cX0_putPiece 78 = .ok (.getfield 9, 3) := by decide +kernel
theorem dX0_putPiece_81 : decode cX0_putPiece 81 = .ok (.iload_n 1, 1) := by decide +kernel
theorem dX0_putPiece_82 : decode cX0_putPiece 82 = .ok (.dup2, 1) := by decide +kernel
theorem dX0_putPiece_83 : decode cX0_putPiece 83 = .ok (.laload, 1) := by decide +kernel
theorem dX0_putPiece_84 : decode cX0_putPiece 84 = .ok (.lconst 1, 1) := by decide +kernel
theorem dX0_putPiece_85 : decode cX0_putPiece 85 = .ok (.iload 4, 2) := by decide +kernel
theorem dX0_putPiece_87 : decode cX0_putPiece 87 = .ok (.lshl, 1) := by decide +kernel
theorem dX0_putPiece_88 : decode cX0_putPiece 88 = .ok (.lor, 1) := by decide +kernel
theorem dX0_putPiece_89 : decode cX0_putPiece 89 = .ok (.lastore, 1) := by decide +kernel
theorem dX0_putPiece_90 : decode cX0_putPiece 90 = .ok (.aload_n 0, 1) := by decide +kernel
theorem dX0_putPiece_91 : decode cX0_putPiece 91 = .ok (.dup, 1) := by decide +kernel
theorem dX0_putPiece_92 : decode cX0_putPiece 92 = .ok (.getfield 241, 3) := by decide +kernel
theorem dX0_putPiece_95 : decode cX0_putPiece 95 = .ok (.iconst 1, 1) := by decide +kernel
theorem dX0_putPiece_96 : decode cX0_putPiece 96 = .ok (.iadd, 1) := by decide +kernel
theorem dX0_putPiece_97 : decode cX0_putPiece 97 = .ok (.putfield 241, 3) := by decide +kernel
theorem dX0_putPiece_100 : decode cX0_putPiece 100 = .ok (.iinc 4 (-1), 3) := by decide +kernel
theorem dX0_putPiece_103 : decode cX0_putPiece 103 = .ok (.goto (-100), 3) := by decide +kernel
theorem dX0_putPiece_106 : decode cX0_putPiece 106 = .ok (.return_, 1) := by decide +kernel
theorem dX1_operandNamed_0 : decode cX1_operandNamed 0 = .ok (.iconst 0, 1) := by decide +kernel
theorem dX1_operandNamed_1 : decode cX1_operandNamed 1 = .ok (.istore_n 3, 1) := by decide +kernel
theorem dX1_operandNamed_2 : decode cX1_operandNamed 2 = .ok (.iload_n 3, 1) := by decide +kernel
theorem dX1_operandNamed_3 : decode cX1_operandNamed 3 = .ok (.aload_n 0, 1) := by decide +kernel
theorem dX1_operandNamed_4 : decode cX1_operandNamed 4 = .ok (.getfield 45, 3) := by decide +kernel
theorem dX1_operandNamed_7 : decode cX1_operandNamed 7 = .ok (.if_icmp .ge 25, 3) := by decide +kernel
theorem dX1_operandNamed_10 : decode cX1_operandNamed 10 = .ok (.aload_n 0, 1) := by decide +kernel
theorem dX1_operandNamed_11 : decode cX1_operandNamed 11 = .ok (.getfield 17, 3) := by decide +kernel
theorem dX1_operandNamed_14 : decode cX1_operandNamed 14 = .ok (.iload_n 3, 1) := by decide +kernel
theorem dX1_operandNamed_15 : decode cX1_operandNamed 15 = .ok (.aaload, 1) := by decide +kernel
theorem dX1_operandNamed_16 : decode cX1_operandNamed 16 = .ok (.aload_n 1, 1) := by decide +kernel
theorem dX1_operandNamed_17 : decode cX1_operandNamed 17 = .ok (.iload_n 2, 1) := by decide +kernel
theorem dX1_operandNamed_18 : decode cX1_operandNamed 18 = .ok (.invokevirtual 52, 3) := by decide +kernel
theorem dX1_operandNamed_21 : decode cX1_operandNamed 21 = .ok (.ifCond .ne 5, 3) := by decide +kernel
theorem dX1_operandNamed_24 : decode cX1_operandNamed 24 = .ok (.iload_n 3, 1) := by decide +kernel
theorem dX1_operandNamed_25 : decode cX1_operandNamed 25 = .ok (.ireturn, 1) := by decide +kernel
theorem dX1_operandNamed_26 : decode cX1_operandNamed 26 = .ok (.iinc 3 1, 3) := by decide +kernel
theorem dX1_operandNamed_29 : decode cX1_operandNamed 29 = .ok (.goto (-27), 3) := by decide +kernel
theorem dX1_operandNamed_32 : decode cX1_operandNamed 32 = .ok (.iconst (-1), 1) := by decide +kernel
theorem dX1_operandNamed_33 : decode cX1_operandNamed 33 = .ok (.ireturn, 1) := by decide +kernel
theorem dX0_readPiece_0 : decode cX0_readPiece 0 = .ok (.aload_n 0, 1) := by decide +kernel
theorem dX0_readPiece_1 : decode cX0_readPiece 1 = .ok (.getfield 186, 3) := by decide +kernel
theorem dX0_readPiece_4 : decode cX0_readPiece 4 = .ok (.aload_n 0, 1) := by decide +kernel
theorem dX0_readPiece_5 : decode cX0_readPiece 5 = .ok (.getfield 25, 3) := by decide +kernel
theorem dX0_readPiece_8 : decode cX0_readPiece 8 = .ok (.aload_n 0, 1) := by decide +kernel
theorem dX0_readPiece_9 : decode cX0_readPiece 9 = .ok (.getfield 15, 3) := by decide +kernel
theorem dX0_readPiece_12 : decode cX0_readPiece 12 = .ok (.getfield 58, 3) := by decide +kernel
theorem dX0_readPiece_15 : decode cX0_readPiece 15 = .ok (.invokevirtual 206, 3) := by decide +kernel
theorem dX0_readPiece_18 : decode cX0_readPiece 18 = .ok (.istore_n 1, 1) := by decide +kernel
theorem dX0_readPiece_19 : decode cX0_readPiece 19 = .ok (.iload_n 1, 1) := by decide +kernel
theorem dX0_readPiece_20 : decode cX0_readPiece 20 = .ok (.ifCond .ge 13, 3) := by decide +kernel
theorem dX0_readPiece_23 : decode cX0_readPiece 23 = .ok (.aload_n 0, 1) := by decide +kernel
theorem dX0_readPiece_24 : decode cX0_readPiece 24 = .ok (.getfield 15, 3) := by decide +kernel
theorem dX0_readPiece_27 : decode cX0_readPiece 27 = .ok (.iconst 2, 1) := by decide +kernel
theorem dX0_readPiece_28 : decode cX0_readPiece 28 = .ok (.invokevirtual 67, 3) := by decide +kernel
theorem dX0_readPiece_31 : decode cX0_readPiece 31 = .ok (.pop, 1) := by decide +kernel
theorem dX0_readPiece_32 : decode cX0_readPiece 32 = .ok (.return_, 1) := by decide +kernel
theorem dX0_readPiece_33 : decode cX0_readPiece 33 = .ok (.aload_n 0, 1) := by decide +kernel
theorem dX0_readPiece_34 : decode cX0_readPiece 34 = .ok (.getfield 15, 3) := by decide +kernel
theorem dX0_readPiece_37 : decode cX0_readPiece 37 = .ok (.dup, 1) := by decide +kernel
theorem dX0_readPiece_38 : decode cX0_readPiece 38 = .ok (.getfield 58, 3) := by decide +kernel
theorem dX0_readPiece_41 : decode cX0_readPiece 41 = .ok (.iconst 1, 1) := by decide +kernel
theorem dX0_readPiece_42 : decode cX0_readPiece 42 = .ok (.iadd, 1) := by decide +kernel
theorem dX0_readPiece_43 : decode cX0_readPiece 43 = .ok (.putfield 58, 3) := by decide +kernel
theorem dX0_readPiece_46 : decode cX0_readPiece 46 = .ok (.aload_n 0, 1) := by decide +kernel
theorem dX0_readPiece_47 : decode cX0_readPiece 47 = .ok (.getfield 186, 3) := by decide +kernel
theorem dX0_readPiece_50 : decode cX0_readPiece 50 = .ok (.getfield 269, 3) := by decide +kernel
theorem dX0_readPiece_53 : decode cX0_readPiece 53 = .ok (.iload_n 1, 1) := by decide +kernel
theorem dX0_readPiece_54 : decode cX0_readPiece 54 = .ok (.aaload, 1) := by decide +kernel
theorem dX0_readPiece_55 : decode cX0_readPiece 55 = .ok (.getfield 154, 3) := by decide +kernel
theorem dX0_readPiece_58 : decode cX0_readPiece 58 = .ok (.iconst 1, 1) := by decide +kernel
theorem dX0_readPiece_59 : decode cX0_readPiece 59 = .ok (.isub, 1) := by decide +kernel
theorem dX0_readPiece_60 : decode cX0_readPiece 60 = .ok (.istore_n 2, 1) := by decide +kernel
theorem dX0_readPiece_61 : decode cX0_readPiece 61 = .ok (.iconst 0, 1) := by decide +kernel
theorem dX0_readPiece_62 : decode cX0_readPiece 62 = .ok (.istore_n 3, 1) := by decide +kernel
theorem dX0_readPiece_63 : decode cX0_readPiece 63 = .ok (.aload_n 0, 1) := by decide +kernel
theorem dX0_readPiece_64 : decode cX0_readPiece 64 = .ok (.getfield 15, 3) := by decide +kernel
theorem dX0_readPiece_67 : decode cX0_readPiece 67 = .ok (.bipush 91, 2) := by decide +kernel
theorem dX0_readPiece_69 : decode cX0_readPiece 69 = .ok (.invokevirtual 190, 3) := by decide +kernel
theorem dX0_readPiece_72 : decode cX0_readPiece 72 = .ok (.ifCond .eq 100, 3) := by decide +kernel
theorem dX0_readPiece_75 : decode cX0_readPiece 75 = .ok (.aload_n 0, 1) := by decide +kernel
theorem dX0_readPiece_76 : decode cX0_readPiece 76 = .ok (.getfield 15, 3) := by decide +kernel
theorem dX0_readPiece_79 : decode cX0_readPiece 79 = .ok (.dup, 1) := by decide +kernel
theorem dX0_readPiece_80 : decode cX0_readPiece 80 = .ok (.getfield 58, 3) := by decide +kernel
theorem dX0_readPiece_83 : decode cX0_readPiece 83 = .ok (.iconst 1, 1) := by decide +kernel
theorem dX0_readPiece_84 : decode cX0_readPiece 84 = .ok (.iadd, 1) := by decide +kernel
theorem dX0_readPiece_85 : decode cX0_readPiece 85 = .ok (.putfield 58, 3) := by decide +kernel
theorem dX0_readPiece_88 : decode cX0_readPiece 88 = .ok (.aload_n 0, 1) := by decide +kernel
theorem dX0_readPiece_89 : decode cX0_readPiece 89 = .ok (.getfield 15, 3) := by decide +kernel
theorem dX0_readPiece_92 : decode cX0_readPiece 92 = .ok (.lconst 0, 1) := by decide +kernel
theorem dX0_readPiece_93 : decode cX0_readPiece 93 = .ok (.iload_n 2, 1) := by decide +kernel
theorem dX0_readPiece_94 : decode cX0_readPiece 94 = .ok (.i2l, 1) := by decide +kernel
theorem dX0_readPiece_95 : decode cX0_readPiece 95 = .ok (.invokevirtual 73, 3) := by decide +kernel
theorem dX0_readPiece_98 : decode cX0_readPiece 98 = .ok (.l2i, 1) := by decide +kernel
theorem dX0_readPiece_99 : decode cX0_readPiece 99 = .ok (.istore_n 2, 1) := by decide +kernel
theorem dX0_readPiece_100 : decode cX0_readPiece 100 = .ok (.iload_n 2, 1) := by decide +kernel
theorem dX0_readPiece_101 : decode cX0_readPiece 101 = .ok (.istore_n 3, 1) := by decide +kernel
theorem dX0_readPiece_102 : decode cX0_readPiece 102 = .ok (.aload_n 0, 1) := by decide +kernel
theorem dX0_readPiece_103 : decode cX0_readPiece 103 = .ok (.getfield 15, 3) := by decide +kernel
theorem dX0_readPiece_106 : decode cX0_readPiece 106 = .ok (.invokevirtual 55, 3) := by decide +kernel
theorem dX0_readPiece_109 : decode cX0_readPiece 109 = .ok (.ifCond .ne 40, 3) := by decide +kernel
theorem dX0_readPiece_112 : decode cX0_readPiece 112 = .ok (.aload_n 0, 1) := by decide +kernel
theorem dX0_readPiece_113 : decode cX0_readPiece 113 = .ok (.getfield 15, 3) := by decide +kernel
theorem dX0_readPiece_116 : decode cX0_readPiece 116 = .ok (.bipush 58, 2) := by decide +kernel
theorem dX0_readPiece_118 : decode cX0_readPiece 118 = .ok (.invokevirtual 190, 3) := by decide +kernel
theorem dX0_readPiece_121 : decode cX0_readPiece 121 = .ok (.ifCond .eq 28, 3) := by decide +kernel
theorem dX0_readPiece_124 : decode cX0_readPiece 124 = .ok (.aload_n 0, 1) := by decide +kernel
theorem dX0_readPiece_125 : decode cX0_readPiece 125 = .ok (.getfield 15, 3) := by decide +kernel
theorem dX0_readPiece_128 : decode cX0_readPiece 128 = .ok (.dup, 1) := by decide +kernel
theorem dX0_readPiece_129 : decode cX0_readPiece 129 = .ok (.getfield 58, 3) := by decide +kernel
theorem dX0_readPiece_132 : decode cX0_readPiece 132 = .ok (.iconst 1, 1) := by decide +kernel
theorem dX0_readPiece_133 : decode cX0_readPiece 133 = .ok (.iadd, 1) := by decide +kernel
theorem dX0_readPiece_134 : decode cX0_readPiece 134 = .ok (.putfield 58, 3) := by decide +kernel
theorem dX0_readPiece_137 : decode cX0_readPiece 137 = .ok (.aload_n 0, 1) := by decide +kernel
theorem dX0_readPiece_138 : decode cX0_readPiece 138 = .ok (.getfield 15, 3) := by decide +kernel
theorem dX0_readPiece_141 : decode cX0_readPiece 141 = .ok (.lconst 0, 1) := by decide +kernel
theorem dX0_readPiece_142 : decode cX0_readPiece 142 = .ok (.iload_n 2, 1) := by decide +kernel
theorem dX0_readPiece_143 : decode cX0_readPiece 143 = .ok (.i2l, 1) := by decide +kernel
theorem dX0_readPiece_144 : decode cX0_readPiece 144 = .ok (.invokevirtual 73, 3) := by decide +kernel
theorem dX0_readPiece_147 : decode cX0_readPiece 147 = .ok (.l2i, 1) := by decide +kernel
theorem dX0_readPiece_148 : decode cX0_readPiece 148 = .ok (.istore_n 3, 1) := by decide +kernel
theorem dX0_readPiece_149 : decode cX0_readPiece 149 = .ok (.aload_n 0, 1) := by decide +kernel
theorem dX0_readPiece_150 : decode cX0_readPiece 150 = .ok (.getfield 15, 3) := by decide +kernel
theorem dX0_readPiece_153 : decode cX0_readPiece 153 = .ok (.invokevirtual 55, 3) := by decide +kernel
theorem dX0_readPiece_156 : decode cX0_readPiece 156 = .ok (.ifCond .ne 15, 3) := by decide +kernel
theorem dX0_readPiece_159 : decode cX0_readPiece 159 = .ok (.aload_n 0, 1) := by decide +kernel
theorem dX0_readPiece_160 : decode cX0_readPiece 160 = .ok (.getfield 15, 3) := by decide +kernel
theorem dX0_readPiece_163 : decode cX0_readPiece 163 = .ok (.bipush 93, 2) := by decide +kernel
theorem dX0_readPiece_165 : decode cX0_readPiece 165 = .ok (.invokevirtual 87, 3) := by decide +kernel
theorem dX0_readPiece_168 : decode cX0_readPiece 168 = .ok (.ifCond .ne 4, 3) := by decide +kernel
theorem dX0_readPiece_171 : decode cX0_readPiece 171 = .ok (.return_, 1) := by decide +kernel
theorem dX0_readPiece_172 : decode cX0_readPiece 172 = .ok (.aload_n 0, 1) := by decide +kernel
theorem dX0_readPiece_173 : decode cX0_readPiece 173 = .ok (.iload_n 1, 1) := by decide +kernel
theorem dX0_readPiece_174 : decode cX0_readPiece 174 = .ok (.iload_n 2, 1) := by decide +kernel
theorem dX0_readPiece_175 : decode cX0_readPiece 175 = .ok (.iload_n 3, 1) := by decide +kernel
theorem dX0_readPiece_176 : decode cX0_readPiece 176 = .ok (.invokevirtual 289, 3) := by decide +kernel
theorem dX0_readPiece_179 : decode cX0_readPiece 179 = .ok (.return_, 1) := by decide +kernel
theorem dX1_putDigit_0 : decode cX1_putDigit 0 = .ok (.aload_n 0, 1) := by decide +kernel
theorem dX1_putDigit_1 : decode cX1_putDigit 1 = .ok (.getfield 27, 3) := by decide +kernel
theorem dX1_putDigit_4 : decode cX1_putDigit 4 = .ok (.aload_n 0, 1) := by decide +kernel
theorem dX1_putDigit_5 : decode cX1_putDigit 5 = .ok (.getfield 56, 3) := by decide +kernel
theorem dX1_putDigit_8 : decode cX1_putDigit 8 = .ok (.dup2, 1) := by decide +kernel
theorem dX1_putDigit_9 : decode cX1_putDigit 9 = .ok (.laload, 1) := by decide +kernel
theorem dX1_putDigit_10 : decode cX1_putDigit 10 = .ok (.lconst 1, 1) := by decide +kernel
theorem dX1_putDigit_11 : decode cX1_putDigit 11 = .ok (.iload_n 1, 1) := by decide +kernel
theorem dX1_putDigit_12 : decode cX1_putDigit 12 = .ok (.lshl, 1) := by decide +kernel
theorem dX1_putDigit_13 : decode cX1_putDigit 13 = .ok (.lor, 1) := by decide +kernel
theorem dX1_putDigit_14 : decode cX1_putDigit 14 = .ok (.lastore, 1) := by decide +kernel
theorem dX1_putDigit_15 : decode cX1_putDigit 15 = .ok (.aload_n 0, 1) := by decide +kernel
theorem dX1_putDigit_16 : decode cX1_putDigit 16 = .ok (.getfield 31, 3) := by decide +kernel
theorem dX1_putDigit_19 : decode cX1_putDigit 19 = .ok (.aload_n 0, 1) := by decide +kernel
theorem dX1_putDigit_20 : decode cX1_putDigit 20 = .ok (.getfield 56, 3) := by decide +kernel
theorem dX1_putDigit_23 : decode cX1_putDigit 23 = .ok (.dup2, 1) := by decide +kernel
theorem dX1_putDigit_24 : decode cX1_putDigit 24 = .ok (.laload, 1) := by decide +kernel
theorem dX1_putDigit_25 : decode cX1_putDigit 25 = .ok (.iload_n 2, 1) := by decide +kernel
theorem dX1_putDigit_26 : decode cX1_putDigit 26 = .ok (.i2l, 1) := by decide +kernel
theorem dX1_putDigit_27 : decode cX1_putDigit 27 = .ok (.iload_n 1, 1) := by decide +kernel
theorem dX1_putDigit_28 : decode cX1_putDigit 28 = .ok (.lshl, 1) := by decide +kernel
theorem dX1_putDigit_29 : decode cX1_putDigit 29 = .ok (.lor, 1) := by decide +kernel
theorem dX1_putDigit_30 : decode cX1_putDigit 30 = .ok (.lastore, 1) := by decide +kernel
theorem dX1_putDigit_31 : decode cX1_putDigit 31 = .ok (.aload_n 0, 1) := by decide +kernel
theorem dX1_putDigit_32 : decode cX1_putDigit 32 = .ok (.dup, 1) := by decide +kernel
theorem dX1_putDigit_33 : decode cX1_putDigit 33 = .ok (.getfield 59, 3) := by decide +kernel
theorem dX1_putDigit_36 : decode cX1_putDigit 36 = .ok (.iconst 1, 1) := by decide +kernel
theorem dX1_putDigit_37 : decode cX1_putDigit 37 = .ok (.iadd, 1) := by decide +kernel
theorem dX1_putDigit_38 : decode cX1_putDigit 38 = .ok (.putfield 59, 3) := by decide +kernel
theorem dX1_putDigit_41 : decode cX1_putDigit 41 = .ok (.return_, 1) := by decide +kernel
