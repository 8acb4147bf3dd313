theorem dX9_init_0 : decode cX9_init 0 = .ok (.aload_n 0, 1) := by decide +kernel
theorem dX9_init_1 : decode cX9_init 1 = .ok (.invokespecial 3, 3) := by decide +kernel
theorem dX9_init_4 : decode cX9_init 4 = .ok (.aload_n 0, 1) := by decide +kernel
theorem dX9_init_5 : decode cX9_init 5 = .ok (.sipush 129, 3) := by decide +kernel
theorem dX9_init_8 : decode cX9_init 8 = .ok (.newarray .int, 2) := by decide +kernel
theorem dX9_init_10 : decode cX9_init 10 = .ok (.putfield 9, 3) := by decide +kernel
theorem dX9_init_13 : decode cX9_init 13 = .ok (.aload_n 0, 1) := by decide +kernel
theorem dX9_init_14 : decode cX9_init 14 = .ok (.sipush 129, 3) := by decide +kernel
theorem dX9_init_17 : decode cX9_init 17 = .ok (.newarray .int, 2) := by decide +kernel
theorem dX9_init_19 : decode cX9_init 19 = .ok (.putfield 13, 3) := by decide +kernel
theorem dX9_init_22 : decode cX9_init 22 = .ok (.aload_n 0, 1) := by decide +kernel
theorem dX9_init_23 : decode cX9_init 23 = .ok (.sipush 129, 3) := by decide +kernel
theorem dX9_init_26 : decode cX9_init 26 = .ok (.newarray .int, 2) := by decide +kernel
theorem dX9_init_28 : decode cX9_init 28 = .ok (.putfield 16, 3) := by decide +kernel
theorem dX9_init_31 : decode cX9_init 31 = .ok (.aload_n 0, 1) := by decide +kernel
theorem dX9_init_32 : decode cX9_init 32 = .ok (.sipush 1032, 3) := by decide +kernel
theorem dX9_init_35 : decode cX9_init 35 = .ok (.newarray .int, 2) := by decide +kernel
theorem dX9_init_37 : decode cX9_init 37 = .ok (.putfield 19, 3) := by decide +kernel
theorem dX9_init_40 : decode cX9_init 40 = .ok (.aload_n 0, 1) := by decide +kernel
theorem dX9_init_41 : decode cX9_init 41 = .ok (.bipush 40, 2) := by decide +kernel
theorem dX9_init_43 : decode cX9_init 43 = .ok (.newarray .char, 2) := by decide +kernel
theorem dX9_init_45 : decode cX9_init 45 = .ok (.putfield 22, 3) := by decide +kernel
theorem dX9_init_48 : decode cX9_init 48 = .ok (.aload_n 0, 1) := by decide +kernel
theorem dX9_init_49 : decode cX9_init 49 = .ok (.bipush 60, 2) := by decide +kernel
theorem dX9_init_51 : decode cX9_init 51 = .ok (.newarray .char, 2) := by decide +kernel
theorem dX9_init_53 : decode cX9_init 53 = .ok (.putfield 26, 3) := by decide +kernel
theorem dX9_init_56 : decode cX9_init 56 = .ok (.aload_n 0, 1) := by decide +kernel
theorem dX9_init_57 : decode cX9_init 57 = .ok (.iconst (-1), 1) := by decide +kernel
theorem dX9_init_58 : decode cX9_init 58 = .ok (.putfield 29, 3) := by decide +kernel
theorem dX9_init_61 : decode cX9_init 61 = .ok (.aload_n 0, 1) := by decide +kernel
theorem dX9_init_62 : decode cX9_init 62 = .ok (.iconst (-1), 1) := by decide +kernel
theorem dX9_init_63 : decode cX9_init 63 = .ok (.putfield 33, 3) := by decide +kernel
theorem dX9_init_66 : decode cX9_init 66 = .ok (.aload_n 0, 1) := by decide +kernel
theorem dX9_init_67 : decode cX9_init 67 = .ok (.sipush 240, 3) := by decide +kernel
theorem dX9_init_70 : decode cX9_init 70 = .ok (.newarray .int, 2) := by decide +kernel
theorem dX9_init_72 : decode cX9_init 72 = .ok (.putfield 36, 3) := by decide +kernel
theorem dX9_init_75 : decode cX9_init 75 = .ok (.return_, 1) := by decide +kernel
theorem dX9_thrown_0 : decode cX9_thrown 0 = .ok (.aload_n 0, 1) := by decide +kernel
theorem dX9_thrown_1 : decode cX9_thrown 1 = .ok (.getfield 39, 3) := by decide +kernel
theorem dX9_thrown_4 : decode cX9_thrown 4 = .ok (.ireturn, 1) := by decide +kernel
theorem dX9_in_0 : decode cX9_in 0 = .ok (.iload_n 0, 1) := by decide +kernel
theorem dX9_in_1 : decode cX9_in 1 = .ok (.iload_n 1, 1) := by decide +kernel
theorem dX9_in_2 : decode cX9_in 2 = .ok (.if_icmp .lt 12, 3) := by decide +kernel
theorem dX9_in_5 : decode cX9_in 5 = .ok (.iload_n 0, 1) := by decide +kernel
theorem dX9_in_6 : decode cX9_in 6 = .ok (.iload_n 2, 1) := by decide +kernel
theorem dX9_in_7 : decode cX9_in 7 = .ok (.if_icmp .gt 7, 3) := by decide +kernel
theorem dX9_in_10 : decode cX9_in 10 = .ok (.iconst 1, 1) := by decide +kernel
theorem dX9_in_11 : decode cX9_in 11 = .ok (.goto 4, 3) := by decide +kernel
theorem dX9_in_14 : decode cX9_in 14 = .ok (.iconst 0, 1) := by decide +kernel
theorem dX9_in_15 : decode cX9_in 15 = .ok (.ireturn, 1) := by decide +kernel
theorem dX9_keep_0 : decode cX9_keep 0 = .ok (.aload_n 0, 1) := by decide +kernel
theorem dX9_keep_1 : decode cX9_keep 1 = .ok (.iconst 0, 1) := by decide +kernel
theorem dX9_keep_2 : decode cX9_keep 2 = .ok (.putfield 39, 3) := by decide +kernel
theorem dX9_keep_5 : decode cX9_keep 5 = .ok (.aload_n 0, 1) := by decide +kernel
theorem dX9_keep_6 : decode cX9_keep 6 = .ok (.getfield 9, 3) := by decide +kernel
theorem dX9_keep_9 : decode cX9_keep 9 = .ok (.iconst 0, 1) := by decide +kernel
theorem dX9_keep_10 : decode cX9_keep 10 = .ok (.aload_n 0, 1) := by decide +kernel
theorem dX9_keep_11 : decode cX9_keep 11 = .ok (.getfield 13, 3) := by decide +kernel
theorem dX9_keep_14 : decode cX9_keep 14 = .ok (.iconst 0, 1) := by decide +kernel
theorem dX9_keep_15 : decode cX9_keep 15 = .ok (.sipush 129, 3) := by decide +kernel
theorem dX9_keep_18 : decode cX9_keep 18 = .ok (.invokestatic 42, 3) := by decide +kernel
theorem dX9_keep_21 : decode cX9_keep 21 = .ok (.return_, 1) := by decide +kernel
theorem dX9_ends_0 : decode cX9_ends 0 = .ok (.aload_n 0, 1) := by decide +kernel
theorem dX9_ends_1 : decode cX9_ends 1 = .ok (.getfield 39, 3) := by decide +kernel
theorem dX9_ends_4 : decode cX9_ends 4 = .ok (.ifCond .le 21, 3) := by decide +kernel
theorem dX9_ends_7 : decode cX9_ends 7 = .ok (.aload_n 0, 1) := by decide +kernel
theorem dX9_ends_8 : decode cX9_ends 8 = .ok (.getfield 13, 3) := by decide +kernel
theorem dX9_ends_11 : decode cX9_ends 11 = .ok (.iconst 0, 1) := by decide +kernel
theorem dX9_ends_12 : decode cX9_ends 12 = .ok (.aload_n 0, 1) := by decide +kernel
theorem dX9_ends_13 : decode cX9_ends 13 = .ok (.getfield 9, 3) := by decide +kernel
theorem dX9_ends_16 : decode cX9_ends 16 = .ok (.iconst 0, 1) := by decide +kernel
theorem dX9_ends_17 : decode cX9_ends 17 = .ok (.sipush 129, 3) := by decide +kernel
theorem dX9_ends_20 : decode cX9_ends 20 = .ok (.invokestatic 42, 3) := by decide +kernel
theorem dX9_ends_23 : decode cX9_ends 23 = .ok (.iconst 0, 1) := by decide +kernel
theorem dX9_ends_24 : decode cX9_ends 24 = .ok (.ireturn, 1) := by decide +kernel
theorem dX9_ends_25 : decode cX9_ends 25 = .ok (.aload_n 0, 1) := by decide +kernel
theorem dX9_ends_26 : decode cX9_ends 26 = .ok (.getfield 48, 3) := by decide +kernel
theorem dX9_ends_29 : decode cX9_ends 29 = .ok (.bipush 8, 2) := by decide +kernel
theorem dX9_ends_31 : decode cX9_ends 31 = .ok (.if_icmp .ne 31, 3) := by decide +kernel
theorem dX9_ends_34 : decode cX9_ends 34 = .ok (.aload_n 0, 1) := by decide +kernel
theorem dX9_ends_35 : decode cX9_ends 35 = .ok (.getfield 19, 3) := by decide +kernel
theorem dX9_ends_38 : decode cX9_ends 38 = .ok (.sipush 129, 3) := by decide +kernel
theorem dX9_ends_41 : decode cX9_ends 41 = .ok (.aload_n 0, 1) := by decide +kernel
theorem dX9_ends_42 : decode cX9_ends 42 = .ok (.getfield 19, 3) := by decide +kernel
theorem dX9_ends_45 : decode cX9_ends 45 = .ok (.iconst 0, 1) := by decide +kernel
theorem dX9_ends_46 : decode cX9_ends 46 = .ok (.sipush 903, 3) := by decide +kernel
theorem dX9_ends_49 : decode cX9_ends 49 = .ok (.invokestatic 42, 3) := by decide +kernel
theorem dX9_ends_52 : decode cX9_ends 52 = .ok (.aload_n 0, 1) := by decide +kernel
theorem dX9_ends_53 : decode cX9_ends 53 = .ok (.dup, 1) := by decide +kernel
theorem dX9_ends_54 : decode cX9_ends 54 = .ok (.getfield 48, 3) := by decide +kernel
theorem dX9_ends_57 : decode cX9_ends 57 = .ok (.iconst 1, 1) := by decide +kernel
theorem dX9_ends_58 : decode cX9_ends 58 = .ok (.isub, 1) := by decide +kernel
theorem dX9_ends_59 : decode cX9_ends 59 = .ok (.putfield 48, 3) := by decide +kernel
theorem dX9_ends_62 : decode cX9_ends 62 = .ok (.aload_n 0, 1) := by decide +kernel
theorem dX9_ends_63 : decode cX9_ends 63 = .ok (.getfield 13, 3) := by decide +kernel
theorem dX9_ends_66 : decode cX9_ends 66 = .ok (.iconst 0, 1) := by decide +kernel
theorem dX9_ends_67 : decode cX9_ends 67 = .ok (.aload_n 0, 1) := by decide +kernel
theorem dX9_ends_68 : decode cX9_ends 68 = .ok (.getfield 19, 3) := by decide +kernel
theorem dX9_ends_71 : decode cX9_ends 71 = .ok (.sipush 129, 3) := by decide +kernel
theorem dX9_ends_74 : decode cX9_ends 74 = .ok (.aload_n 0, 1) := by decide +kernel
theorem dX9_ends_75 : decode cX9_ends 75 = .ok (.getfield 48, 3) := by decide +kernel
theorem dX9_ends_78 : decode cX9_ends 78 = .ok (.imul, 1) := by decide +kernel
theorem dX9_ends_79 : decode cX9_ends 79 = .ok (.sipush 129, 3) := by decide +kernel
theorem dX9_ends_82 : decode cX9_ends 82 = .ok (.invokestatic 42, 3) := by decide +kernel
theorem dX9_ends_85 : decode cX9_ends 85 = .ok (.aload_n 0, 1) := by decide +kernel
theorem dX9_ends_86 : decode cX9_ends 86 = .ok (.dup, 1) := by decide +kernel
theorem dX9_ends_87 : decode cX9_ends 87 = .ok (.getfield 48, 3) := by decide +kernel
theorem dX9_ends_90 : decode cX9_ends 90 = .ok (.iconst 1, 1) := by decide +kernel
theorem dX9_ends_91 : decode cX9_ends 91 = .ok (.iadd, 1) := by decide +kernel
theorem dX9_ends_92 : decode cX9_ends 92 = .ok (.putfield 48, 3) := by decide +kernel
theorem dX9_ends_95 : decode cX9_ends 95 = .ok (.iload_n 1, 1) := by decide +kernel
theorem dX9_ends_96 : decode cX9_ends 96 = .ok (.ireturn, 1) := by decide +kernel
theorem dX9_fails_0 : decode cX9_fails 0 = .ok (.aload_n 0, 1) := by decide +kernel
theorem dX9_fails_1 : decode cX9_fails 1 = .ok (.iload_n 1, 1) := by decide +kernel
theorem dX9_fails_2 : decode cX9_fails 2 = .ok (.putfield 39, 3) := by decide +kernel
theorem dX9_fails_5 : decode cX9_fails 5 = .ok (.iconst 0, 1) := by decide +kernel
theorem dX9_fails_6 : decode cX9_fails 6 = .ok (.ireturn, 1) := by decide +kernel
theorem dX9_isThere_0 : decode cX9_isThere 0 = .ok (.aload_n 0, 1) := by decide +kernel
theorem dX9_isThere_1 : decode cX9_isThere 1 = .ok (.iload_n 1, 1) := by decide +kernel
theorem dX9_isThere_2 : decode cX9_isThere 2 = .ok (.ifCond .eq 7, 3) := by decide +kernel
theorem dX9_isThere_5 : decode cX9_isThere 5 = .ok (.iconst 0, 1) := by decide +kernel
theorem dX9_isThere_6 : decode cX9_isThere 6 = .ok (.goto 4, 3) := by decide +kernel
theorem dX9_isThere_9 : decode cX9_isThere 9 = .ok (.iconst 1, 1) := by decide +kernel
theorem dX9_isThere_10 : decode cX9_isThere 10 = .ok (.putfield 39, 3) := by decide +kernel
theorem dX9_isThere_13 : decode cX9_isThere 13 = .ok (.iload_n 1, 1) := by decide +kernel
theorem dX9_isThere_14 : decode cX9_isThere 14 = .ok (.ireturn, 1) := by decide +kernel
theorem dX9_isStop_0 : decode cX9_isStop 0 = .ok (.iload_n 1, 1) := by decide +kernel
theorem dX9_isStop_1 : decode cX9_isStop 1 = .ok (.iconst 0, 1) := by decide +kernel
theorem dX9_isStop_2 : decode cX9_isStop 2 = .ok (.aload_n 0, 1) := by decide +kernel
theorem dX9_isStop_3 : decode cX9_isStop 3 = .ok (.getfield 9, 3) := by decide +kernel
theorem dX9_isStop_6 : decode cX9_isStop 6 = .ok (.iconst 0, 1) := by decide +kernel
theorem dX9_isStop_7 : decode cX9_isStop 7 = .ok (.iaload, 1) := by decide +kernel
theorem dX9_isStop_8 : decode cX9_isStop 8 = .ok (.iconst 1, 1) := by decide +kernel
theorem dX9_isStop_9 : decode cX9_isStop 9 = .ok (.isub, 1) := by decide +kernel
theorem dX9_isStop_10 : decode cX9_isStop 10 = .ok (.invokestatic 51, 3) := by decide +kernel
theorem dX9_isStop_13 : decode cX9_isStop 13 = .ok (.ireturn, 1) := by decide +kernel
theorem dX9_isLine_0 : decode cX9_isLine 0 = .ok (.iload_n 1, 1) := by decide +kernel
theorem dX9_isLine_1 : decode cX9_isLine 1 = .ok (.iconst 0, 1) := by decide +kernel
theorem dX9_isLine_2 : decode cX9_isLine 2 = .ok (.aload_n 0, 1) := by decide +kernel
theorem dX9_isLine_3 : decode cX9_isLine 3 = .ok (.getfield 9, 3) := by decide +kernel
theorem dX9_isLine_6 : decode cX9_isLine 6 = .ok (.iconst 1, 1) := by decide +kernel
theorem dX9_isLine_7 : decode cX9_isLine 7 = .ok (.iaload, 1) := by decide +kernel
theorem dX9_isLine_8 : decode cX9_isLine 8 = .ok (.iconst 1, 1) := by decide +kernel
theorem dX9_isLine_9 : decode cX9_isLine 9 = .ok (.isub, 1) := by decide +kernel
theorem dX9_isLine_10 : decode cX9_isLine 10 = .ok (.invokestatic 51, 3) := by decide +kernel
theorem dX9_isLine_13 : decode cX9_isLine 13 = .ok (.ireturn, 1) := by decide +kernel
theorem dX9_isTram_0 : decode cX9_isTram 0 = .ok (.iload_n 1, 1) := by decide +kernel
theorem dX9_isTram_1 : decode cX9_isTram 1 = .ok (.iconst 0, 1) := by decide +kernel
theorem dX9_isTram_2 : decode cX9_isTram 2 = .ok (.aload_n 0, 1) := by decide +kernel
theorem dX9_isTram_3 : decode cX9_isTram 3 = .ok (.getfield 9, 3) := by decide +kernel
theorem dX9_isTram_6 : decode cX9_isTram 6 = .ok (.iconst 2, 1) := by decide +kernel
theorem dX9_isTram_7 : decode cX9_isTram 7 = .ok (.iaload, 1) := by decide +kernel
theorem dX9_isTram_8 : decode cX9_isTram 8 = .ok (.iconst 1, 1) := by decide +kernel
theorem dX9_isTram_9 : decode cX9_isTram 9 = .ok (.isub, 1) := by decide +kernel
theorem dX9_isTram_10 : decode cX9_isTram 10 = .ok (.invokestatic 51, 3) := by decide +kernel
theorem dX9_isTram_13 : decode cX9_isTram 13 = .ok (.ireturn, 1) := by decide +kernel
theorem dX9_isPassenger_0 : decode cX9_isPassenger 0 = .ok (.iload_n 1, 1) := by decide +kernel
theorem dX9_isPassenger_1 : decode cX9_isPassenger 1 = .ok (.iconst 0, 1) := by decide +kernel
theorem dX9_isPassenger_2 : decode cX9_isPassenger 2 = .ok (.aload_n 0, 1) := by decide +kernel
theorem dX9_isPassenger_3 : decode cX9_isPassenger 3 = .ok (.getfield 9, 3) := by decide +kernel
theorem dX9_isPassenger_6 : decode cX9_isPassenger 6 = .ok (.iconst 3, 1) := by decide +kernel
theorem dX9_isPassenger_7 : decode cX9_isPassenger 7 = .ok (.iaload, 1) := by decide +kernel
theorem dX9_isPassenger_8 : decode cX9_isPassenger 8 = .ok (.iconst 1, 1) := by decide +kernel
theorem dX9_isPassenger_9 : decode cX9_isPassenger 9 = .ok (.isub, 1) := by decide +kernel
theorem dX9_isPassenger_10 : decode cX9_isPassenger 10 = .ok (.invokestatic 51, 3) := by decide +kernel
theorem dX9_isPassenger_13 : decode cX9_isPassenger 13 = .ok (.ireturn, 1) := by decide +kernel
theorem dX9_isSecret_0 : decode cX9_isSecret 0 = .ok (.iload_n 1, 1) := by decide +kernel
theorem dX9_isSecret_1 : decode cX9_isSecret 1 = .ok (.iconst 0, 1) := by decide +kernel
theorem dX9_isSecret_2 : decode cX9_isSecret 2 = .ok (.aload_n 0, 1) := by decide +kernel
theorem dX9_isSecret_3 : decode cX9_isSecret 3 = .ok (.getfield 9, 3) := by decide +kernel
theorem dX9_isSecret_6 : decode cX9_isSecret 6 = .ok (.iconst 4, 1) := by decide +kernel
theorem dX9_isSecret_7 : decode cX9_isSecret 7 = .ok (.iaload, 1) := by decide +kernel
theorem dX9_isSecret_8 : decode cX9_isSecret 8 = .ok (.iconst 1, 1) := by decide +kernel
theorem dX9_isSecret_9 : decode cX9_isSecret 9 = .ok (.isub, 1) := by decide +kernel
theorem dX9_isSecret_10 : decode cX9_isSecret 10 = .ok (.invokestatic 51, 3) := by decide +kernel
theorem dX9_isSecret_13 : decode cX9_isSecret 13 = .ok (.ireturn, 1) := by decide +kernel
theorem dX9_lengthOf_0 : decode cX9_lengthOf 0 = .ok (.aload_n 0, 1) := by decide +kernel
theorem dX9_lengthOf_1 : decode cX9_lengthOf 1 = .ok (.getfield 9, 3) := by decide +kernel
theorem dX9_lengthOf_4 : decode cX9_lengthOf 4 = .ok (.bipush 16, 2) := by decide +kernel
theorem dX9_lengthOf_6 : decode cX9_lengthOf 6 = .ok (.bipush 7, 2) := by decide +kernel
theorem dX9_lengthOf_8 : decode cX9_lengthOf 8 = .ok (.iload_n 1, 1) := by decide +kernel
theorem dX9_lengthOf_9 : decode cX9_lengthOf 9 = .ok (.imul, 1) := by decide +kernel
theorem dX9_lengthOf_10 : decode cX9_lengthOf 10 = .ok (.iadd, 1) := by decide +kernel
theorem dX9_lengthOf_11 : decode cX9_lengthOf 11 = .ok (.iaload, 1) := by decide +kernel
theorem dX9_lengthOf_12 : decode cX9_lengthOf 12 = .ok (.ireturn, 1) := by decide +kernel
theorem dX9_stopOf_0 : decode cX9_stopOf 0 = .ok (.aload_n 0, 1) := by decide +kernel
theorem dX9_stopOf_1 : decode cX9_stopOf 1 = .ok (.getfield 9, 3) := by decide +kernel
theorem dX9_stopOf_4 : decode cX9_stopOf 4 = .ok (.bipush 16, 2) := by decide +kernel
theorem dX9_stopOf_6 : decode cX9_stopOf 6 = .ok (.bipush 7, 2) := by decide +kernel
theorem dX9_stopOf_8 : decode cX9_stopOf 8 = .ok (.iload_n 1, 1) := by decide +kernel
theorem dX9_stopOf_9 : decode cX9_stopOf 9 = .ok (.imul, 1) := by decide +kernel
theorem dX9_stopOf_10 : decode cX9_stopOf 10 = .ok (.iadd, 1) := by decide +kernel
theorem dX9_stopOf_11 : decode cX9_stopOf 11 = .ok (.iconst 1, 1) := by decide +kernel
theorem dX9_stopOf_12 : decode cX9_stopOf 12 = .ok (.iadd, 1) := by decide +kernel
theorem dX9_stopOf_13 : decode cX9_stopOf 13 = .ok (.iload_n 2, 1) := by decide +kernel
theorem dX9_stopOf_14 : decode cX9_stopOf 14 = .ok (.iadd, 1) := by decide +kernel
theorem dX9_stopOf_15 : decode cX9_stopOf 15 = .ok (.iaload, 1) := by decide +kernel
theorem dX9_stopOf_16 : decode cX9_stopOf 16 = .ok (.ireturn, 1) := by decide +kernel
theorem dX9_positionOf_0 : decode cX9_positionOf 0 = .ok (.iconst (-1), 1) := by decide +kernel
theorem dX9_positionOf_1 : decode cX9_positionOf 1 = .ok (.istore_n 3, 1) := by decide +kernel
theorem dX9_positionOf_2 : decode cX9_positionOf 2 = .ok (.iconst 0, 1) := by decide +kernel
theorem dX9_positionOf_3 : decode cX9_positionOf 3 = .ok (.istore 4, 2) := by decide +kernel
theorem dX9_positionOf_5 : decode cX9_positionOf 5 = .ok (.iload 4, 2) := by decide +kernel
theorem dX9_positionOf_7 : decode cX9_positionOf 7 = .ok (.aload_n 0, 1) := by decide +kernel
theorem dX9_positionOf_8 : decode cX9_positionOf 8 = .ok (.iload_n 1, 1) := by decide +kernel
theorem dX9_positionOf_9 : decode cX9_positionOf 9 = .ok (.invokevirtual 55, 3) := by decide +kernel
theorem dX9_positionOf_12 : decode cX9_positionOf 12 = .ok (.if_icmp .ge 27, 3) := by decide +kernel
theorem dX9_positionOf_15 : decode cX9_positionOf 15 = .ok (.aload_n 0, 1) := by decide +kernel
theorem dX9_positionOf_16 : decode cX9_positionOf 16 = .ok (.iload_n 1, 1) := by decide +kernel
theorem dX9_positionOf_17 : decode cX9_positionOf 17 = .ok (.iload 4, 2) := by decide +kernel
theorem dX9_positionOf_19 : decode cX9_positionOf 19 = .ok (.invokevirtual 59, 3) := by decide +kernel
theorem dX9_positionOf_22 : decode cX9_positionOf 22 = .ok (.iload_n 2, 1) := by decide +kernel
theorem dX9_positionOf_23 : decode cX9_positionOf 23 = .ok (.if_icmp .ne 8, 3) := by decide +kernel
theorem dX9_positionOf_26 : decode cX9_positionOf 26 = .ok (.iload 4, 2) := by decide +kernel
theorem dX9_positionOf_28 : decode cX9_positionOf 28 = .ok (.goto 4, 3) := by decide +kernel
theorem dX9_positionOf_31 : decode cX9_positionOf 31 = .ok (.iload_n 3, 1) := by decide +kernel
theorem dX9_positionOf_32 : decode cX9_positionOf 32 = .ok (.istore_n 3, 1) := by decide +kernel
theorem dX9_positionOf_33 : decode cX9_positionOf 33 = .ok (.iinc 4 1, 3) := by decide +kernel
theorem dX9_positionOf_36 : decode cX9_positionOf 36 = .ok (.goto (-31), 3) := by decide +kernel
theorem dX9_positionOf_39 : decode cX9_positionOf 39 = .ok (.iload_n 3, 1) := by decide +kernel
theorem dX9_positionOf_40 : decode cX9_positionOf 40 = .ok (.ireturn, 1) := by decide +kernel
theorem dX9_doAddStop_0 : decode cX9_doAddStop 0 = .ok (.aload_n 0, 1) := by decide +kernel
theorem dX9_doAddStop_1 : decode cX9_doAddStop 1 = .ok (.getfield 9, 3) := by decide +kernel
theorem dX9_doAddStop_4 : decode cX9_doAddStop 4 = .ok (.iconst 0, 1) := by decide +kernel
theorem dX9_doAddStop_5 : decode cX9_doAddStop 5 = .ok (.iaload, 1) := by decide +kernel
theorem dX9_doAddStop_6 : decode cX9_doAddStop 6 = .ok (.istore_n 2, 1) := by decide +kernel
theorem dX9_doAddStop_7 : decode cX9_doAddStop 7 = .ok (.iload_n 1, 1) := by decide +kernel
theorem dX9_doAddStop_8 : decode cX9_doAddStop 8 = .ok (.iconst 0, 1) := by decide +kernel
theorem dX9_doAddStop_9 : decode cX9_doAddStop 9 = .ok (.iconst 3, 1) := by decide +kernel
theorem dX9_doAddStop_10 : decode cX9_doAddStop 10 = .ok (.invokestatic 51, 3) := by decide +kernel
theorem dX9_doAddStop_13 : decode cX9_doAddStop 13 = .ok (.ifCond .ne 9, 3) := by decide +kernel
theorem dX9_doAddStop_16 : decode cX9_doAddStop 16 = .ok (.aload_n 0, 1) := by decide +kernel
theorem dX9_doAddStop_17 : decode cX9_doAddStop 17 = .ok (.iconst 1, 1) := by decide +kernel
theorem dX9_doAddStop_18 : decode cX9_doAddStop 18 = .ok (.invokevirtual 63, 3) := by decide +kernel
theorem dX9_doAddStop_21 : decode cX9_doAddStop 21 = .ok (.ireturn, 1) := by decide +kernel
theorem dX9_doAddStop_22 : decode cX9_doAddStop 22 = .ok (.iload_n 2, 1) := by decide +kernel
theorem dX9_doAddStop_23 : decode cX9_doAddStop 23 = .ok (.bipush 10, 2) := by decide +kernel
theorem dX9_doAddStop_25 : decode cX9_doAddStop 25 = .ok (.if_icmp .ne 9, 3) := by decide +kernel
theorem dX9_doAddStop_28 : decode cX9_doAddStop 28 = .ok (.aload_n 0, 1) := by decide +kernel
theorem dX9_doAddStop_29 : decode cX9_doAddStop 29 = .ok (.iconst 2, 1) := by decide +kernel
theorem dX9_doAddStop_30 : decode cX9_doAddStop 30 = .ok (.invokevirtual 63, 3) := by decide +kernel
theorem dX9_doAddStop_33 : decode cX9_doAddStop 33 = .ok (.ireturn, 1) := by decide +kernel
theorem dX9_doAddStop_34 : decode cX9_doAddStop 34 = .ok (.aload_n 0, 1) := by decide +kernel
theorem dX9_doAddStop_35 : decode cX9_doAddStop 35 = .ok (.getfield 9, 3) := by decide +kernel
theorem dX9_doAddStop_38 : decode cX9_doAddStop 38 = .ok (.bipush 6, 2) := by decide +kernel
theorem dX9_doAddStop_40 : decode cX9_doAddStop 40 = .ok (.iload_n 2, 1) := by decide +kernel
theorem dX9_doAddStop_41 : decode cX9_doAddStop 41 = .ok (.iadd, 1) := by decide +kernel
theorem dX9_doAddStop_42 : decode cX9_doAddStop 42 = .ok (.iload_n 1, 1) := by decide +kernel
theorem dX9_doAddStop_43 : decode cX9_doAddStop 43 = .ok (.iastore, 1) := by decide +kernel
theorem dX9_doAddStop_44 : decode cX9_doAddStop 44 = .ok (.aload_n 0, 1) := by decide +kernel
theorem dX9_doAddStop_45 : decode cX9_doAddStop 45 = .ok (.getfield 9, 3) := by decide +kernel
theorem dX9_doAddStop_48 : decode cX9_doAddStop 48 = .ok (.iconst 0, 1) := by decide +kernel
theorem dX9_doAddStop_49 : decode cX9_doAddStop 49 = .ok (.dup2, 1) := by decide +kernel
theorem dX9_doAddStop_50 : decode cX9_doAddStop 50 = .ok (.iaload, 1) := by decide +kernel
theorem dX9_doAddStop_51 : decode cX9_doAddStop 51 = .ok (.iconst 1, 1) := by decide +kernel
theorem dX9_doAddStop_52 : decode cX9_doAddStop 52 = .ok (.iadd, 1) := by decide +kernel
theorem dX9_doAddStop_53 : decode cX9_doAddStop 53 = .ok (.iastore, 1) := by decide +kernel
theorem dX9_doAddStop_54 : decode cX9_doAddStop 54 = .ok (.iload_n 2, 1) := by decide +kernel
theorem dX9_doAddStop_55 : decode cX9_doAddStop 55 = .ok (.ireturn, 1) := by decide +kernel
theorem dX9_addStop_0 : decode cX9_addStop 0 = .ok (.aload_n 0, 1) := by decide +kernel
theorem dX9_addStop_1 : decode cX9_addStop 1 = .ok (.invokevirtual 66, 3) := by decide +kernel
theorem dX9_addStop_4 : decode cX9_addStop 4 = .ok (.aload_n 0, 1) := by decide +kernel
theorem dX9_addStop_5 : decode cX9_addStop 5 = .ok (.aload_n 0, 1) := by decide +kernel
theorem dX9_addStop_6 : decode cX9_addStop 6 = .ok (.iload_n 1, 1) := by decide +kernel
theorem dX9_addStop_7 : decode cX9_addStop 7 = .ok (.invokevirtual 69, 3) := by decide +kernel
theorem dX9_addStop_10 : decode cX9_addStop 10 = .ok (.invokevirtual 72, 3) := by decide +kernel
theorem dX9_addStop_13 : decode cX9_addStop 13 = .ok (.ireturn, 1) := by decide +kernel
theorem dX9_doAddLine_0 : decode cX9_doAddLine 0 = .ok (.aload_n 0, 1) := by decide +kernel
theorem dX9_doAddLine_1 : decode cX9_doAddLine 1 = .ok (.getfield 9, 3) := by decide +kernel
theorem dX9_doAddLine_4 : decode cX9_doAddLine 4 = .ok (.iconst 1, 1) := by decide +kernel
theorem dX9_doAddLine_5 : decode cX9_doAddLine 5 = .ok (.iaload, 1) := by decide +kernel
theorem dX9_doAddLine_6 : decode cX9_doAddLine 6 = .ok (.istore_n 3, 1) := by decide +kernel
theorem dX9_doAddLine_7 : decode cX9_doAddLine 7 = .ok (.aload_n 0, 1) := by decide +kernel
theorem dX9_doAddLine_8 : decode cX9_doAddLine 8 = .ok (.iload_n 1, 1) := by decide +kernel
theorem dX9_doAddLine_9 : decode cX9_doAddLine 9 = .ok (.invokevirtual 75, 3) := by decide +kernel
theorem dX9_doAddLine_12 : decode cX9_doAddLine 12 = .ok (.ifCond .eq 11, 3) := by decide +kernel
theorem dX9_doAddLine_15 : decode cX9_doAddLine 15 = .ok (.aload_n 0, 1) := by decide +kernel
theorem dX9_doAddLine_16 : decode cX9_doAddLine 16 = .ok (.iload_n 2, 1) := by decide +kernel
theorem dX9_doAddLine_17 : decode cX9_doAddLine 17 = .ok (.invokevirtual 75, 3) := by decide +kernel
theorem dX9_doAddLine_20 : decode cX9_doAddLine 20 = .ok (.ifCond .ne 9, 3) := by decide +kernel
theorem dX9_doAddLine_23 : decode cX9_doAddLine 23 = .ok (.aload_n 0, 1) := by decide +kernel
theorem dX9_doAddLine_24 : decode cX9_doAddLine 24 = .ok (.iconst 1, 1) := by decide +kernel
theorem dX9_doAddLine_25 : decode cX9_doAddLine 25 = .ok (.invokevirtual 63, 3) := by decide +kernel
theorem dX9_doAddLine_28 : decode cX9_doAddLine 28 = .ok (.ireturn, 1) := by decide +kernel
theorem dX9_doAddLine_29 : decode cX9_doAddLine 29 = .ok (.iload_n 1, 1) := by decide +kernel
theorem dX9_doAddLine_30 : decode cX9_doAddLine 30 = .ok (.iload_n 2, 1) := by decide +kernel
theorem dX9_doAddLine_31 : decode cX9_doAddLine 31 = .ok (.if_icmp .ne 9, 3) := by decide +kernel
theorem dX9_doAddLine_34 : decode cX9_doAddLine 34 = .ok (.aload_n 0, 1) := by decide +kernel
theorem dX9_doAddLine_35 : decode cX9_doAddLine 35 = .ok (.iconst 2, 1) := by decide +kernel
theorem dX9_doAddLine_36 : decode cX9_doAddLine 36 = .ok (.invokevirtual 63, 3) := by decide +kernel
theorem dX9_doAddLine_39 : decode cX9_doAddLine 39 = .ok (.ireturn, 1) := by decide +kernel
theorem dX9_doAddLine_40 : decode cX9_doAddLine 40 = .ok (.iload_n 3, 1) := by decide +kernel
theorem dX9_doAddLine_41 : decode cX9_doAddLine 41 = .ok (.iconst 5, 1) := by decide +kernel
theorem dX9_doAddLine_42 : decode cX9_doAddLine 42 = .ok (.if_icmp .ne 9, 3) := by decide +kernel
theorem dX9_doAddLine_45 : decode cX9_doAddLine 45 = .ok (.aload_n 0, 1) := by decide +kernel
theorem dX9_doAddLine_46 : decode cX9_doAddLine 46 = .ok (.iconst 3, 1) := by decide +kernel
theorem dX9_doAddLine_47 : decode cX9_doAddLine 47 = .ok (.invokevirtual 63, 3) := by decide +kernel
theorem dX9_doAddLine_50 : decode cX9_doAddLine 50 = .ok (.ireturn, 1) := by decide +kernel
theorem dX9_doAddLine_51 : decode cX9_doAddLine 51 = .ok (.bipush 16, 2) := by decide +kernel
theorem dX9_doAddLine_53 : decode cX9_doAddLine 53 = .ok (.bipush 7, 2) := by decide +kernel
theorem dX9_doAddLine_55 : decode cX9_doAddLine 55 = .ok (.iload_n 3, 1) := by decide +kernel
theorem dX9_doAddLine_56 : decode cX9_doAddLine 56 = .ok (.imul, 1) := by decide +kernel
theorem dX9_doAddLine_57 : decode cX9_doAddLine 57 = .ok (.iadd, 1) := by decide +kernel
theorem dX9_doAddLine_58 : decode cX9_doAddLine 58 = .ok (.istore 4, 2) := by decide +kernel
theorem dX9_doAddLine_60 : decode cX9_doAddLine 60 = .ok (.aload_n 0, 1) := by decide +kernel
theorem dX9_doAddLine_61 : decode cX9_doAddLine 61 = .ok (.getfield 9, 3) := by decide +kernel
theorem dX9_doAddLine_64 : decode cX9_doAddLine 64 = .ok (.iload 4, 2) := by decide +kernel
theorem dX9_doAddLine_66 : decode cX9_doAddLine 66 = .ok (.iconst 2, 1) := by decide +kernel
theorem dX9_doAddLine_67 : decode cX9_doAddLine 67 = .ok (.iastore, 1) := by decide +kernel
theorem dX9_doAddLine_68 : decode cX9_doAddLine 68 = .ok (.aload_n 0, 1) := by decide +kernel
theorem dX9_doAddLine_69 : decode cX9_doAddLine 69 = .ok (.getfield 9, 3) := by decide +kernel
theorem dX9_doAddLine_72 : decode cX9_doAddLine 72 = .ok (.iload 4, 2) := by decide +kernel
theorem dX9_doAddLine_74 : decode cX9_doAddLine 74 = .ok (.iconst 1, 1) := by decide +kernel
theorem dX9_doAddLine_75 : decode cX9_doAddLine 75 = .ok (.iadd, 1) := by decide +kernel
theorem dX9_doAddLine_76 : decode cX9_doAddLine 76 = .ok (.iload_n 1, 1) := by decide +kernel
theorem dX9_doAddLine_77 : decode cX9_doAddLine 77 = .ok (.iastore, 1) := by decide +kernel
theorem dX9_doAddLine_78 : decode cX9_doAddLine 78 = .ok (.aload_n 0, 1) := by decide +kernel
theorem dX9_doAddLine_79 : decode cX9_doAddLine 79 = .ok (.getfield 9, 3) := by decide +kernel
theorem dX9_doAddLine_82 : decode cX9_doAddLine 82 = .ok (.iload 4, 2) := by decide +kernel
theorem dX9_doAddLine_84 : decode cX9_doAddLine 84 = .ok (.iconst 2, 1) := by decide +kernel
theorem dX9_doAddLine_85 : decode cX9_doAddLine 85 = .ok (.iadd, 1) := by decide +kernel
theorem dX9_doAddLine_86 : decode cX9_doAddLine 86 = .ok (.iload_n 2, 1) := by decide +kernel
theorem dX9_doAddLine_87 : decode cX9_doAddLine 87 = .ok (.iastore, 1) := by decide +kernel
theorem dX9_doAddLine_88 : decode cX9_doAddLine 88 = .ok (.aload_n 0, 1) := by decide +kernel
theorem dX9_doAddLine_89 : decode cX9_doAddLine 89 = .ok (.getfield 9, 3) := by decide +kernel
theorem dX9_doAddLine_92 : decode cX9_doAddLine 92 = .ok (.iconst 1, 1) := by decide +kernel
theorem dX9_doAddLine_93 : decode cX9_doAddLine 93 = .ok (.dup2, 1) := by decide +kernel
theorem dX9_doAddLine_94 : decode cX9_doAddLine 94 = .ok (.iaload, 1) := by decide +kernel
theorem dX9_doAddLine_95 : decode cX9_doAddLine 95 = .ok (.iconst 1, 1) := by decide +kernel
theorem dX9_doAddLine_96 : decode cX9_doAddLine 96 = .ok (.iadd, 1) := by decide +kernel
theorem dX9_doAddLine_97 : decode cX9_doAddLine 97 = .ok (.iastore, 1) := by decide +kernel
theorem dX9_doAddLine_98 : decode cX9_doAddLine 98 = .ok (.iload_n 3, 1) := by decide +kernel
theorem dX9_doAddLine_99 : decode cX9_doAddLine 99 = .ok (.ireturn, 1) := by decide +kernel
theorem dX9_addLine_0 : decode cX9_addLine 0 = .ok (.aload_n 0, 1) := by decide +kernel
theorem dX9_addLine_1 : decode cX9_addLine 1 = .ok (.invokevirtual 66, 3) := by decide +kernel
theorem dX9_addLine_4 : decode cX9_addLine 4 = .ok (.aload_n 0, 1) := by decide +kernel
theorem dX9_addLine_5 : decode cX9_addLine 5 = .ok (.aload_n 0, 1) := by decide +kernel
theorem dX9_addLine_6 : decode cX9_addLine 6 = .ok (.iload_n 1, 1) := by decide +kernel
theorem dX9_addLine_7 : decode cX9_addLine 7 = .ok (.iload_n 2, 1) := by decide +kernel
theorem dX9_addLine_8 : decode cX9_addLine 8 = .ok (.invokevirtual 79, 3) := by decide +kernel
theorem dX9_addLine_11 : decode cX9_addLine 11 = .ok (.invokevirtual 72, 3) := by decide +kernel
theorem dX9_addLine_14 : decode cX9_addLine 14 = .ok (.ireturn, 1) := by decide +kernel
theorem dX9_doExtendLine_0 : decode cX9_doExtendLine 0 = .ok (.aload_n 0, 1) := by decide +kernel
theorem dX9_doExtendLine_1 : decode cX9_doExtendLine 1 = .ok (.iload_n 1, 1) := by decide +kernel
theorem dX9_doExtendLine_2 : decode cX9_doExtendLine 2 = .ok (.invokevirtual 82, 3) := by decide +kernel
theorem dX9_doExtendLine_5 : decode cX9_doExtendLine 5 = .ok (.ifCond .eq 11, 3) := by decide +kernel
theorem dX9_doExtendLine_8 : decode cX9_doExtendLine 8 = .ok (.aload_n 0, 1) := by decide +kernel
theorem dX9_doExtendLine_9 : decode cX9_doExtendLine 9 = .ok (.iload_n 2, 1) := by decide +kernel
theorem dX9_doExtendLine_10 : decode cX9_doExtendLine 10 = .ok (.invokevirtual 75, 3) := by decide +kernel
theorem dX9_doExtendLine_13 : decode cX9_doExtendLine 13 = .ok (.ifCond .ne 9, 3) := by decide +kernel
theorem dX9_doExtendLine_16 : decode cX9_doExtendLine 16 = .ok (.aload_n 0, 1) := by decide +kernel
theorem dX9_doExtendLine_17 : decode cX9_doExtendLine 17 = .ok (.iconst 1, 1) := by decide +kernel
theorem dX9_doExtendLine_18 : decode cX9_doExtendLine 18 = .ok (.invokevirtual 63, 3) := by decide +kernel
theorem dX9_doExtendLine_21 : decode cX9_doExtendLine 21 = .ok (.ireturn, 1) := by decide +kernel
theorem dX9_doExtendLine_22 : decode cX9_doExtendLine 22 = .ok (.aload_n 0, 1) := by decide +kernel
theorem dX9_doExtendLine_23 : decode cX9_doExtendLine 23 = .ok (.iload_n 1, 1) := by decide +kernel
theorem dX9_doExtendLine_24 : decode cX9_doExtendLine 24 = .ok (.iload_n 2, 1) := by decide +kernel
theorem dX9_doExtendLine_25 : decode cX9_doExtendLine 25 = .ok (.invokevirtual 85, 3) := by decide +kernel
theorem dX9_doExtendLine_28 : decode cX9_doExtendLine 28 = .ok (.ifCond .lt 9, 3) := by decide +kernel
theorem dX9_doExtendLine_31 : decode cX9_doExtendLine 31 = .ok (.aload_n 0, 1) := by decide +kernel
theorem dX9_doExtendLine_32 : decode cX9_doExtendLine 32 = .ok (.iconst 2, 1) := by decide +kernel
theorem dX9_doExtendLine_33 : decode cX9_doExtendLine 33 = .ok (.invokevirtual 63, 3) := by decide +kernel
theorem dX9_doExtendLine_36 : decode cX9_doExtendLine 36 = .ok (.ireturn, 1) := by decide +kernel
theorem dX9_doExtendLine_37 : decode cX9_doExtendLine 37 = .ok (.aload_n 0, 1) := by decide +kernel
theorem dX9_doExtendLine_38 : decode cX9_doExtendLine 38 = .ok (.iload_n 1, 1) := by decide +kernel
theorem dX9_doExtendLine_39 : decode cX9_doExtendLine 39 = .ok (.invokevirtual 55, 3) := by decide +kernel
theorem dX9_doExtendLine_42 : decode cX9_doExtendLine 42 = .ok (.istore_n 3, 1) := by decide +kernel
theorem dX9_doExtendLine_43 : decode cX9_doExtendLine 43 = .ok (.iload_n 3, 1) := by decide +kernel
theorem dX9_doExtendLine_44 : decode cX9_doExtendLine 44 = .ok (.bipush 6, 2) := by decide +kernel
theorem dX9_doExtendLine_46 : decode cX9_doExtendLine 46 = .ok (.if_icmp .ne 9, 3) := by decide +kernel
theorem dX9_doExtendLine_49 : decode cX9_doExtendLine 49 = .ok (.aload_n 0, 1) := by decide +kernel
theorem dX9_doExtendLine_50 : decode cX9_doExtendLine 50 = .ok (.iconst 3, 1) := by decide +kernel
theorem dX9_doExtendLine_51 : decode cX9_doExtendLine 51 = .ok (.invokevirtual 63, 3) := by decide +kernel
theorem dX9_doExtendLine_54 : decode cX9_doExtendLine 54 = .ok (.ireturn, 1) := by decide +kernel
theorem dX9_doExtendLine_55 : decode cX9_doExtendLine 55 = .ok (.aload_n 0, 1) := by decide +kernel
theorem dX9_doExtendLine_56 : decode cX9_doExtendLine 56 = .ok (.getfield 9, 3) := by decide +kernel
theorem dX9_doExtendLine_59 : decode cX9_doExtendLine 59 = .ok (.bipush 16, 2) := by decide +kernel
theorem dX9_doExtendLine_61 : decode cX9_doExtendLine 61 = .ok (.bipush 7, 2) := by decide +kernel
theorem dX9_doExtendLine_63 : decode cX9_doExtendLine 63 = .ok (.iload_n 1, 1) := by decide +kernel
theorem dX9_doExtendLine_64 : decode cX9_doExtendLine 64 = .ok (.imul, 1) := by decide +kernel
theorem dX9_doExtendLine_65 : decode cX9_doExtendLine 65 = .ok (.iadd, 1) := by decide +kernel
theorem dX9_doExtendLine_66 : decode cX9_doExtendLine 66 = .ok (.iconst 1, 1) := by decide +kernel
theorem dX9_doExtendLine_67 : decode cX9_doExtendLine 67 = .ok (.iadd, 1) := by decide +kernel
theorem dX9_doExtendLine_68 : decode cX9_doExtendLine 68 = .ok (.iload_n 3, 1) := by decide +kernel
theorem dX9_doExtendLine_69 : decode cX9_doExtendLine 69 = .ok (.iadd, 1) := by decide +kernel
theorem dX9_doExtendLine_70 : decode cX9_doExtendLine 70 = .ok (.iload_n 2, 1) := by decide +kernel
theorem dX9_doExtendLine_71 : decode cX9_doExtendLine 71 = .ok (.iastore, 1) := by decide +kernel
theorem dX9_doExtendLine_72 : decode cX9_doExtendLine 72 = .ok (.aload_n 0, 1) := by decide +kernel
theorem dX9_doExtendLine_73 : decode cX9_doExtendLine 73 = .ok (.getfield 9, 3) := by decide +kernel
theorem dX9_doExtendLine_76 : decode cX9_doExtendLine 76 = .ok (.bipush 16, 2) := by decide +kernel
theorem dX9_doExtendLine_78 : decode cX9_doExtendLine 78 = .ok (.bipush 7, 2) := by decide +kernel
theorem dX9_doExtendLine_80 : decode cX9_doExtendLine 80 = .ok (.iload_n 1, 1) := by decide +kernel
theorem dX9_doExtendLine_81 : decode cX9_doExtendLine 81 = .ok (.imul, 1) := by decide +kernel
theorem dX9_doExtendLine_82 : decode cX9_doExtendLine 82 = .ok (.iadd, 1) := by decide +kernel
theorem dX9_doExtendLine_83 : decode cX9_doExtendLine 83 = .ok (.dup2, 1) := by decide +kernel
theorem dX9_doExtendLine_84 : decode cX9_doExtendLine 84 = .ok (.iaload, 1) := by decide +kernel
theorem dX9_doExtendLine_85 : decode cX9_doExtendLine 85 = .ok (.iconst 1, 1) := by decide +kernel
theorem dX9_doExtendLine_86 : decode cX9_doExtendLine 86 = .ok (.iadd, 1) := by decide +kernel
theorem dX9_doExtendLine_87 : decode cX9_doExtendLine 87 = .ok (.iastore, 1) := by decide +kernel
theorem dX9_doExtendLine_88 : decode cX9_doExtendLine 88 = .ok (.iload_n 3, 1) := by decide +kernel
theorem dX9_doExtendLine_89 : decode cX9_doExtendLine 89 = .ok (.ireturn, 1) := by decide +kernel
theorem dX9_extendLine_0 : decode cX9_extendLine 0 = .ok (.aload_n 0, 1) := by decide +kernel
theorem dX9_extendLine_1 : decode cX9_extendLine 1 = .ok (.invokevirtual 66, 3) := by decide +kernel
theorem dX9_extendLine_4 : decode cX9_extendLine 4 = .ok (.aload_n 0, 1) := by decide +kernel
theorem dX9_extendLine_5 : decode cX9_extendLine 5 = .ok (.aload_n 0, 1) := by decide +kernel
theorem dX9_extendLine_6 : decode cX9_extendLine 6 = .ok (.iload_n 1, 1) := by decide +kernel
theorem dX9_extendLine_7 : decode cX9_extendLine 7 = .ok (.iload_n 2, 1) := by decide +kernel
theorem dX9_extendLine_8 : decode cX9_extendLine 8 = .ok (.invokevirtual 88, 3) := by decide +kernel
theorem dX9_extendLine_11 : decode cX9_extendLine 11 = .ok (.invokevirtual 72, 3) := by decide +kernel
theorem dX9_extendLine_14 : decode cX9_extendLine 14 = .ok (.ireturn, 1) := by decide +kernel
theorem dX9_stopCount_0 : decode cX9_stopCount 0 = .ok (.aload_n 0, 1) := by decide +kernel
theorem dX9_stopCount_1 : decode cX9_stopCount 1 = .ok (.iconst 0, 1) := by decide +kernel
theorem dX9_stopCount_2 : decode cX9_stopCount 2 = .ok (.putfield 39, 3) := by decide +kernel
theorem dX9_stopCount_5 : decode cX9_stopCount 5 = .ok (.aload_n 0, 1) := by decide +kernel
theorem dX9_stopCount_6 : decode cX9_stopCount 6 = .ok (.getfield 9, 3) := by decide +kernel
theorem dX9_stopCount_9 : decode cX9_stopCount 9 = .ok (.iconst 0, 1) := by decide +kernel
theorem dX9_stopCount_10 : decode cX9_stopCount 10 = .ok (.iaload, 1) := by decide +kernel
theorem dX9_stopCount_11 : decode cX9_stopCount 11 = .ok (.ireturn, 1) := by decide +kernel
theorem dX9_zoneOf_0 : decode cX9_zoneOf 0 = .ok (.aload_n 0, 1) := by decide +kernel
theorem dX9_zoneOf_1 : decode cX9_zoneOf 1 = .ok (.aload_n 0, 1) := by decide +kernel
theorem dX9_zoneOf_2 : decode cX9_zoneOf 2 = .ok (.iload_n 1, 1) := by decide +kernel
theorem dX9_zoneOf_3 : decode cX9_zoneOf 3 = .ok (.invokevirtual 75, 3) := by decide +kernel
theorem dX9_zoneOf_6 : decode cX9_zoneOf 6 = .ok (.invokevirtual 91, 3) := by decide +kernel
theorem dX9_zoneOf_9 : decode cX9_zoneOf 9 = .ok (.ifCond .eq 15, 3) := by decide +kernel
theorem dX9_zoneOf_12 : decode cX9_zoneOf 12 = .ok (.aload_n 0, 1) := by decide +kernel
theorem dX9_zoneOf_13 : decode cX9_zoneOf 13 = .ok (.getfield 9, 3) := by decide +kernel
theorem dX9_zoneOf_16 : decode cX9_zoneOf 16 = .ok (.bipush 6, 2) := by decide +kernel
theorem dX9_zoneOf_18 : decode cX9_zoneOf 18 = .ok (.iload_n 1, 1) := by decide +kernel
theorem dX9_zoneOf_19 : decode cX9_zoneOf 19 = .ok (.iadd, 1) := by decide +kernel
theorem dX9_zoneOf_20 : decode cX9_zoneOf 20 = .ok (.iaload, 1) := by decide +kernel
theorem dX9_zoneOf_21 : decode cX9_zoneOf 21 = .ok (.goto 4, 3) := by decide +kernel
theorem dX9_zoneOf_24 : decode cX9_zoneOf 24 = .ok (.iconst 0, 1) := by decide +kernel
theorem dX9_zoneOf_25 : decode cX9_zoneOf 25 = .ok (.ireturn, 1) := by decide +kernel
theorem dX9_isEnd_0 : decode cX9_isEnd 0 = .ok (.iconst 0, 1) := by decide +kernel
theorem dX9_isEnd_1 : decode cX9_isEnd 1 = .ok (.istore_n 2, 1) := by decide +kernel
theorem dX9_isEnd_2 : decode cX9_isEnd 2 = .ok (.iconst 0, 1) := by decide +kernel
theorem dX9_isEnd_3 : decode cX9_isEnd 3 = .ok (.istore_n 3, 1) := by decide +kernel
theorem dX9_isEnd_4 : decode cX9_isEnd 4 = .ok (.iload_n 3, 1) := by decide +kernel
theorem dX9_isEnd_5 : decode cX9_isEnd 5 = .ok (.aload_n 0, 1) := by decide +kernel
theorem dX9_isEnd_6 : decode cX9_isEnd 6 = .ok (.getfield 9, 3) := by decide +kernel
theorem dX9_isEnd_9 : decode cX9_isEnd 9 = .ok (.iconst 1, 1) := by decide +kernel
theorem dX9_isEnd_10 : decode cX9_isEnd 10 = .ok (.iaload, 1) := by decide +kernel
theorem dX9_isEnd_11 : decode cX9_isEnd 11 = .ok (.if_icmp .ge 45, 3) := by decide +kernel
theorem dX9_isEnd_14 : decode cX9_isEnd 14 = .ok (.iload_n 2, 1) := by decide +kernel
theorem dX9_isEnd_15 : decode cX9_isEnd 15 = .ok (.ifCond .ne 29, 3) := by decide +kernel
theorem dX9_isEnd_18 : decode cX9_isEnd 18 = .ok (.aload_n 0, 1) := by decide +kernel
theorem dX9_isEnd_19 : decode cX9_isEnd 19 = .ok (.iload_n 3, 1) := by decide +kernel
theorem dX9_isEnd_20 : decode cX9_isEnd 20 = .ok (.iconst 0, 1) := by decide +kernel
theorem dX9_isEnd_21 : decode cX9_isEnd 21 = .ok (.invokevirtual 59, 3) := by decide +kernel
theorem dX9_isEnd_24 : decode cX9_isEnd 24 = .ok (.iload_n 1, 1) := by decide +kernel
theorem dX9_isEnd_25 : decode cX9_isEnd 25 = .ok (.if_icmp .eq 19, 3) := by decide +kernel
theorem dX9_isEnd_28 : decode cX9_isEnd 28 = .ok (.aload_n 0, 1) := by decide +kernel
theorem dX9_isEnd_29 : decode cX9_isEnd 29 = .ok (.iload_n 3, 1) := by decide +kernel
theorem dX9_isEnd_30 : decode cX9_isEnd 30 = .ok (.aload_n 0, 1) := by decide +kernel
theorem dX9_isEnd_31 : decode cX9_isEnd 31 = .ok (.iload_n 3, 1) := by decide +kernel
theorem dX9_isEnd_32 : decode cX9_isEnd 32 = .ok (.invokevirtual 55, 3) := by decide +kernel
theorem dX9_isEnd_35 : decode cX9_isEnd 35 = .ok (.iconst 1, 1) := by decide +kernel
theorem dX9_isEnd_36 : decode cX9_isEnd 36 = .ok (.isub, 1) := by decide +kernel
theorem dX9_isEnd_37 : decode cX9_isEnd 37 = .ok (.invokevirtual 59, 3) := by decide +kernel
theorem dX9_isEnd_40 : decode cX9_isEnd 40 = .ok (.iload_n 1, 1) := by decide +kernel
theorem dX9_isEnd_41 : decode cX9_isEnd 41 = .ok (.if_icmp .ne 7, 3) := by decide +kernel
theorem dX9_isEnd_44 : decode cX9_isEnd 44 = .ok (.iconst 1, 1) := by decide +kernel
theorem dX9_isEnd_45 : decode cX9_isEnd 45 = .ok (.goto 4, 3) := by decide +kernel
theorem dX9_isEnd_48 : decode cX9_isEnd 48 = .ok (.iconst 0, 1) := by decide +kernel
theorem dX9_isEnd_49 : decode cX9_isEnd 49 = .ok (.istore_n 2, 1) := by decide +kernel
theorem dX9_isEnd_50 : decode cX9_isEnd 50 = .ok (.iinc 3 1, 3) := by decide +kernel
theorem dX9_isEnd_53 : decode cX9_isEnd 53 = .ok (.goto (-49), 3) := by decide +kernel
theorem dX9_isEnd_56 : decode cX9_isEnd 56 = .ok (.iload_n 2, 1) := by decide +kernel
theorem dX9_isEnd_57 : decode cX9_isEnd 57 = .ok (.ireturn, 1) := by decide +kernel
theorem dX9_isTerminus_0 : decode cX9_isTerminus 0 = .ok (.aload_n 0, 1) := by decide +kernel
theorem dX9_isTerminus_1 : decode cX9_isTerminus 1 = .ok (.aload_n 0, 1) := by decide +kernel
theorem dX9_isTerminus_2 : decode cX9_isTerminus 2 = .ok (.iload_n 1, 1) := by decide +kernel
theorem dX9_isTerminus_3 : decode cX9_isTerminus 3 = .ok (.invokevirtual 75, 3) := by decide +kernel
theorem dX9_isTerminus_6 : decode cX9_isTerminus 6 = .ok (.invokevirtual 91, 3) := by decide +kernel
theorem dX9_isTerminus_9 : decode cX9_isTerminus 9 = .ok (.ifCond .eq 15, 3) := by decide +kernel
theorem dX9_isTerminus_12 : decode cX9_isTerminus 12 = .ok (.aload_n 0, 1) := by decide +kernel
theorem dX9_isTerminus_13 : decode cX9_isTerminus 13 = .ok (.iload_n 1, 1) := by decide +kernel
theorem dX9_isTerminus_14 : decode cX9_isTerminus 14 = .ok (.invokevirtual 95, 3) := by decide +kernel
theorem dX9_isTerminus_17 : decode cX9_isTerminus 17 = .ok (.ifCond .eq 7, 3) := by decide +kernel
theorem dX9_isTerminus_20 : decode cX9_isTerminus 20 = .ok (.iconst 1, 1) := by decide +kernel
theorem dX9_isTerminus_21 : decode cX9_isTerminus 21 = .ok (.goto 4, 3) := by decide +kernel
theorem dX9_isTerminus_24 : decode cX9_isTerminus 24 = .ok (.iconst 0, 1) := by decide +kernel
theorem dX9_isTerminus_25 : decode cX9_isTerminus 25 = .ok (.ireturn, 1) := by decide +kernel
theorem dX9_lineCount_0 : decode cX9_lineCount 0 = .ok (.aload_n 0, 1) := by decide +kernel
theorem dX9_lineCount_1 : decode cX9_lineCount 1 = .ok (.iconst 0, 1) := by decide +kernel
theorem dX9_lineCount_2 : decode cX9_lineCount 2 = .ok (.putfield 39, 3) := by decide +kernel
theorem dX9_lineCount_5 : decode cX9_lineCount 5 = .ok (.aload_n 0, 1) := by decide +kernel
theorem dX9_lineCount_6 : decode cX9_lineCount 6 = .ok (.getfield 9, 3) := by decide +kernel
theorem dX9_lineCount_9 : decode cX9_lineCount 9 = .ok (.iconst 1, 1) := by decide +kernel
theorem dX9_lineCount_10 : decode cX9_lineCount 10 = .ok (.iaload, 1) := by decide +kernel
theorem dX9_lineCount_11 : decode cX9_lineCount 11 = .ok (.ireturn, 1) := by decide +kernel
theorem dX9_lineLength_0 : decode cX9_lineLength 0 = .ok (.aload_n 0, 1) := by decide +kernel
theorem dX9_lineLength_1 : decode cX9_lineLength 1 = .ok (.aload_n 0, 1) := by decide +kernel
theorem dX9_lineLength_2 : decode cX9_lineLength 2 = .ok (.iload_n 1, 1) := by decide +kernel
theorem dX9_lineLength_3 : decode cX9_lineLength 3 = .ok (.invokevirtual 82, 3) := by decide +kernel
theorem dX9_lineLength_6 : decode cX9_lineLength 6 = .ok (.invokevirtual 91, 3) := by decide +kernel
theorem dX9_lineLength_9 : decode cX9_lineLength 9 = .ok (.ifCond .eq 11, 3) := by decide +kernel
theorem dX9_lineLength_12 : decode cX9_lineLength 12 = .ok (.aload_n 0, 1) := by decide +kernel
theorem dX9_lineLength_13 : decode cX9_lineLength 13 = .ok (.iload_n 1, 1) := by decide +kernel
theorem dX9_lineLength_14 : decode cX9_lineLength 14 = .ok (.invokevirtual 55, 3) := by decide +kernel
theorem dX9_lineLength_17 : decode cX9_lineLength 17 = .ok (.goto 4, 3) := by decide +kernel
theorem dX9_lineLength_20 : decode cX9_lineLength 20 = .ok (.iconst 0, 1) := by decide +kernel
theorem dX9_lineLength_21 : decode cX9_lineLength 21 = .ok (.ireturn, 1) := by decide +kernel
theorem dX9_stopAt_0 : decode cX9_stopAt 0 = .ok (.aload_n 0, 1) := by decide +kernel
theorem dX9_stopAt_1 : decode cX9_stopAt 1 = .ok (.iload_n 1, 1) := by decide +kernel
theorem dX9_stopAt_2 : decode cX9_stopAt 2 = .ok (.invokevirtual 82, 3) := by decide +kernel
theorem dX9_stopAt_5 : decode cX9_stopAt 5 = .ok (.ifCond .ne 9, 3) := by decide +kernel
theorem dX9_stopAt_8 : decode cX9_stopAt 8 = .ok (.aload_n 0, 1) := by decide +kernel
theorem dX9_stopAt_9 : decode cX9_stopAt 9 = .ok (.iconst 1, 1) := by decide +kernel
theorem dX9_stopAt_10 : decode cX9_stopAt 10 = .ok (.invokevirtual 63, 3) := by decide +kernel
theorem dX9_stopAt_13 : decode cX9_stopAt 13 = .ok (.ireturn, 1) := by decide +kernel
theorem dX9_stopAt_14 : decode cX9_stopAt 14 = .ok (.aload_n 0, 1) := by decide +kernel
theorem dX9_stopAt_15 : decode cX9_stopAt 15 = .ok (.iload_n 2, 1) := by decide +kernel
theorem dX9_stopAt_16 : decode cX9_stopAt 16 = .ok (.iconst 0, 1) := by decide +kernel
theorem dX9_stopAt_17 : decode cX9_stopAt 17 = .ok (.aload_n 0, 1) := by decide +kernel
theorem dX9_stopAt_18 : decode cX9_stopAt 18 = .ok (.iload_n 1, 1) := by decide +kernel
theorem dX9_stopAt_19 : decode cX9_stopAt 19 = .ok (.invokevirtual 55, 3) := by decide +kernel
theorem dX9_stopAt_22 : decode cX9_stopAt 22 = .ok (.iconst 1, 1) := by decide +kernel
theorem dX9_stopAt_23 : decode cX9_stopAt 23 = .ok (.isub, 1) := by decide +kernel
theorem dX9_stopAt_24 : decode cX9_stopAt 24 = .ok (.invokestatic 51, 3) := by decide +kernel
theorem dX9_stopAt_27 : decode cX9_stopAt 27 = .ok (.ifCond .eq 7, 3) := by decide +kernel
theorem dX9_stopAt_30 : decode cX9_stopAt 30 = .ok (.iconst 0, 1) := by decide +kernel
theorem dX9_stopAt_31 : decode cX9_stopAt 31 = .ok (.goto 4, 3) := by decide +kernel
theorem dX9_stopAt_34 : decode cX9_stopAt 34 = .ok (.iconst 2, 1) := by decide +kernel
theorem dX9_stopAt_35 : decode cX9_stopAt 35 = .ok (.putfield 39, 3) := by decide +kernel
theorem dX9_stopAt_38 : decode cX9_stopAt 38 = .ok (.aload_n 0, 1) := by decide +kernel
theorem dX9_stopAt_39 : decode cX9_stopAt 39 = .ok (.getfield 39, 3) := by decide +kernel
theorem dX9_stopAt_42 : decode cX9_stopAt 42 = .ok (.ifCond .le 7, 3) := by decide +kernel
theorem dX9_stopAt_45 : decode cX9_stopAt 45 = .ok (.iconst 0, 1) := by decide +kernel
theorem dX9_stopAt_46 : decode cX9_stopAt 46 = .ok (.goto 9, 3) := by decide +kernel
theorem dX9_stopAt_49 : decode cX9_stopAt 49 = .ok (.aload_n 0, 1) := by decide +kernel
theorem dX9_stopAt_50 : decode cX9_stopAt 50 = .ok (.iload_n 1, 1) := by decide +kernel
theorem dX9_stopAt_51 : decode cX9_stopAt 51 = .ok (.iload_n 2, 1) := by decide +kernel
theorem dX9_stopAt_52 : decode cX9_stopAt 52 = .ok (.invokevirtual 59, 3) := by decide +kernel
theorem dX9_stopAt_55 : decode cX9_stopAt 55 = .ok (.ireturn, 1) := by decide +kernel
theorem dX9_commonStops_0 : decode cX9_commonStops 0 = .ok (.iconst 0, 1) := by decide +kernel
theorem dX9_commonStops_1 : decode cX9_commonStops 1 = .ok (.istore_n 3, 1) := by decide +kernel
theorem dX9_commonStops_2 : decode cX9_commonStops 2 = .ok (.aload_n 0, 1) := by decide +kernel
theorem dX9_commonStops_3 : decode cX9_commonStops 3 = .ok (.aload_n 0, 1) := by decide +kernel
theorem dX9_commonStops_4 : decode cX9_commonStops 4 = .ok (.iload_n 1, 1) := by decide +kernel
theorem dX9_commonStops_5 : decode cX9_commonStops 5 = .ok (.invokevirtual 82, 3) := by decide +kernel
theorem dX9_commonStops_8 : decode cX9_commonStops 8 = .ok (.ifCond .eq 15, 3) := by decide +kernel
theorem dX9_commonStops_11 : decode cX9_commonStops 11 = .ok (.aload_n 0, 1) := by decide +kernel
theorem dX9_commonStops_12 : decode cX9_commonStops 12 = .ok (.iload_n 2, 1) := by decide +kernel
theorem dX9_commonStops_13 : decode cX9_commonStops 13 = .ok (.invokevirtual 82, 3) := by decide +kernel
theorem dX9_commonStops_16 : decode cX9_commonStops 16 = .ok (.ifCond .eq 7, 3) := by decide +kernel
theorem dX9_commonStops_19 : decode cX9_commonStops 19 = .ok (.iconst 1, 1) := by decide +kernel
theorem dX9_commonStops_20 : decode cX9_commonStops 20 = .ok (.goto 4, 3) := by decide +kernel
theorem dX9_commonStops_23 : decode cX9_commonStops 23 = .ok (.iconst 0, 1) := by decide +kernel
theorem dX9_commonStops_24 : decode cX9_commonStops 24 = .ok (.invokevirtual 91, 3) := by decide +kernel
theorem dX9_commonStops_27 : decode cX9_commonStops 27 = .ok (.ifCond .eq 45, 3) := by decide +kernel
theorem dX9_commonStops_30 : decode cX9_commonStops 30 = .ok (.iconst 0, 1) := by decide +kernel
theorem dX9_commonStops_31 : decode cX9_commonStops 31 = .ok (.istore 4, 2) := by decide +kernel
theorem dX9_commonStops_33 : decode cX9_commonStops 33 = .ok (.iload 4, 2) := by decide +kernel
theorem dX9_commonStops_35 : decode cX9_commonStops 35 = .ok (.aload_n 0, 1) := by decide +kernel
theorem dX9_commonStops_36 : decode cX9_commonStops 36 = .ok (.iload_n 1, 1) := by decide +kernel
theorem dX9_commonStops_37 : decode cX9_commonStops 37 = .ok (.invokevirtual 55, 3) := by decide +kernel
theorem dX9_commonStops_40 : decode cX9_commonStops 40 = .ok (.if_icmp .ge 32, 3) := by decide +kernel
theorem dX9_commonStops_43 : decode cX9_commonStops 43 = .ok (.iload_n 3, 1) := by decide +kernel
theorem dX9_commonStops_44 : decode cX9_commonStops 44 = .ok (.aload_n 0, 1) := by decide +kernel
theorem dX9_commonStops_45 : decode cX9_commonStops 45 = .ok (.iload_n 2, 1) := by decide +kernel
theorem dX9_commonStops_46 : decode cX9_commonStops 46 = .ok (.aload_n 0, 1) := by decide +kernel
theorem dX9_commonStops_47 : decode cX9_commonStops 47 = .ok (.iload_n 1, 1) := by decide +kernel
theorem dX9_commonStops_48 : decode cX9_commonStops 48 = .ok (.iload 4, 2) := by decide +kernel
theorem dX9_commonStops_50 : decode cX9_commonStops 50 = .ok (.invokevirtual 59, 3) := by decide +kernel
theorem dX9_commonStops_53 : decode cX9_commonStops 53 = .ok (.invokevirtual 85, 3) := by decide +kernel
theorem dX9_commonStops_56 : decode cX9_commonStops 56 = .ok (.ifCond .lt 7, 3) := by decide +kernel
theorem dX9_commonStops_59 : decode cX9_commonStops 59 = .ok (.iconst 1, 1) := by decide +kernel
theorem dX9_commonStops_60 : decode cX9_commonStops 60 = .ok (.goto 4, 3) := by decide +kernel
theorem dX9_commonStops_63 : decode cX9_commonStops 63 = .ok (.iconst 0, 1) := by decide +kernel
theorem dX9_commonStops_64 : decode cX9_commonStops 64 = .ok (.iadd, 1) := by decide +kernel
theorem dX9_commonStops_65 : decode cX9_commonStops 65 = .ok (.istore_n 3, 1) := by decide +kernel
theorem dX9_commonStops_66 : decode cX9_commonStops 66 = .ok (.iinc 4 1, 3) := by decide +kernel
theorem dX9_commonStops_69 : decode cX9_commonStops 69 = .ok (.goto (-36), 3) := by decide +kernel
theorem dX9_commonStops_72 : decode cX9_commonStops 72 = .ok (.iload_n 3, 1) := by decide +kernel
theorem dX9_commonStops_73 : decode cX9_commonStops 73 = .ok (.ireturn, 1) := by decide +kernel
theorem dX9_ofTram_0 : decode cX9_ofTram 0 = .ok (.aload_n 0, 1) := by decide +kernel
theorem dX9_ofTram_1 : decode cX9_ofTram 1 = .ok (.getfield 9, 3) := by decide +kernel
theorem dX9_ofTram_4 : decode cX9_ofTram 4 = .ok (.bipush 51, 2) := by decide +kernel
theorem dX9_ofTram_6 : decode cX9_ofTram 6 = .ok (.iconst 3, 1) := by decide +kernel
theorem dX9_ofTram_7 : decode cX9_ofTram 7 = .ok (.iload_n 1, 1) := by decide +kernel
theorem dX9_ofTram_8 : decode cX9_ofTram 8 = .ok (.imul, 1) := by decide +kernel
theorem dX9_ofTram_9 : decode cX9_ofTram 9 = .ok (.iadd, 1) := by decide +kernel
theorem dX9_ofTram_10 : decode cX9_ofTram 10 = .ok (.iload_n 2, 1) := by decide +kernel
theorem dX9_ofTram_11 : decode cX9_ofTram 11 = .ok (.iadd, 1) := by decide +kernel
theorem dX9_ofTram_12 : decode cX9_ofTram 12 = .ok (.iaload, 1) := by decide +kernel
theorem dX9_ofTram_13 : decode cX9_ofTram 13 = .ok (.ireturn, 1) := by decide +kernel
theorem dX9_doAddTram_0 : decode cX9_doAddTram 0 = .ok (.aload_n 0, 1) := by decide +kernel
theorem dX9_doAddTram_1 : decode cX9_doAddTram 1 = .ok (.getfield 9, 3) := by decide +kernel
theorem dX9_doAddTram_4 : decode cX9_doAddTram 4 = .ok (.iconst 2, 1) := by decide +kernel
theorem dX9_doAddTram_5 : decode cX9_doAddTram 5 = .ok (.iaload, 1) := by decide +kernel
theorem dX9_doAddTram_6 : decode cX9_doAddTram 6 = .ok (.istore_n 2, 1) := by decide +kernel
theorem dX9_doAddTram_7 : decode cX9_doAddTram 7 = .ok (.aload_n 0, 1) := by decide +kernel
theorem dX9_doAddTram_8 : decode cX9_doAddTram 8 = .ok (.iload_n 1, 1) := by decide +kernel
theorem dX9_doAddTram_9 : decode cX9_doAddTram 9 = .ok (.invokevirtual 82, 3) := by decide +kernel
theorem dX9_doAddTram_12 : decode cX9_doAddTram 12 = .ok (.ifCond .ne 9, 3) := by decide +kernel
theorem dX9_doAddTram_15 : decode cX9_doAddTram 15 = .ok (.aload_n 0, 1) := by decide +kernel
theorem dX9_doAddTram_16 : decode cX9_doAddTram 16 = .ok (.iconst 1, 1) := by decide +kernel
theorem dX9_doAddTram_17 : decode cX9_doAddTram 17 = .ok (.invokevirtual 63, 3) := by decide +kernel
theorem dX9_doAddTram_20 : decode cX9_doAddTram 20 = .ok (.ireturn, 1) := by decide +kernel
theorem dX9_doAddTram_21 : decode cX9_doAddTram 21 = .ok (.iload_n 2, 1) := by decide +kernel
theorem dX9_doAddTram_22 : decode cX9_doAddTram 22 = .ok (.bipush 6, 2) := by decide +kernel
theorem dX9_doAddTram_24 : decode cX9_doAddTram 24 = .ok (.if_icmp .ne 9, 3) := by decide +kernel
theorem dX9_doAddTram_27 : decode cX9_doAddTram 27 = .ok (.aload_n 0, 1) := by decide +kernel
theorem dX9_doAddTram_28 : decode cX9_doAddTram 28 = .ok (.iconst 2, 1) := by decide +kernel
theorem dX9_doAddTram_29 : decode cX9_doAddTram 29 = .ok (.invokevirtual 63, 3) := by decide +kernel
theorem dX9_doAddTram_32 : decode cX9_doAddTram 32 = .ok (.ireturn, 1) := by decide +kernel
theorem dX9_doAddTram_33 : decode cX9_doAddTram 33 = .ok (.bipush 51, 2) := by decide +kernel
theorem dX9_doAddTram_35 : decode cX9_doAddTram 35 = .ok (.iconst 3, 1) := by decide +kernel
theorem dX9_doAddTram_36 : decode cX9_doAddTram 36 = .ok (.iload_n 2, 1) := by decide +kernel
theorem dX9_doAddTram_37 : decode cX9_doAddTram 37 = .ok (.imul, 1) := by decide +kernel
theorem dX9_doAddTram_38 : decode cX9_doAddTram 38 = .ok (.iadd, 1) := by decide +kernel
theorem dX9_doAddTram_39 : decode cX9_doAddTram 39 = .ok (.istore_n 3, 1) := by decide +kernel
theorem dX9_doAddTram_40 : decode cX9_doAddTram 40 = .ok (.aload_n 0, 1) := by decide +kernel
theorem dX9_doAddTram_41 : decode cX9_doAddTram 41 = .ok (.getfield 9, 3) := by decide +kernel
theorem dX9_doAddTram_44 : decode cX9_doAddTram 44 = .ok (.iload_n 3, 1) := by decide +kernel
theorem dX9_doAddTram_45 : decode cX9_doAddTram 45 = .ok (.iload_n 1, 1) := by decide +kernel
theorem dX9_doAddTram_46 : decode cX9_doAddTram 46 = .ok (.iastore, 1) := by decide +kernel
theorem dX9_doAddTram_47 : decode cX9_doAddTram 47 = .ok (.aload_n 0, 1) := by decide +kernel
theorem dX9_doAddTram_48 : decode cX9_doAddTram 48 = .ok (.getfield 9, 3) := by decide +kernel
theorem dX9_doAddTram_51 : decode cX9_doAddTram 51 = .ok (.iload_n 3, 1) := by decide +kernel
theorem dX9_doAddTram_52 : decode cX9_doAddTram 52 = .ok (.iconst 1, 1) := by decide +kernel
theorem dX9_doAddTram_53 : decode cX9_doAddTram 53 = .ok (.iadd, 1) := by decide +kernel
theorem dX9_doAddTram_54 : decode cX9_doAddTram 54 = .ok (.iconst 0, 1) := by decide +kernel
theorem dX9_doAddTram_55 : decode cX9_doAddTram 55 = .ok (.iastore, 1) := by decide +kernel
theorem dX9_doAddTram_56 : decode cX9_doAddTram 56 = .ok (.aload_n 0, 1) := by decide +kernel
theorem dX9_doAddTram_57 : decode cX9_doAddTram 57 = .ok (.getfield 9, 3) := by decide +kernel
theorem dX9_doAddTram_60 : decode cX9_doAddTram 60 = .ok (.iload_n 3, 1) := by decide +kernel
theorem dX9_doAddTram_61 : decode cX9_doAddTram 61 = .ok (.iconst 2, 1) := by decide +kernel
theorem dX9_doAddTram_62 : decode cX9_doAddTram 62 = .ok (.iadd, 1) := by decide +kernel
theorem dX9_doAddTram_63 : decode cX9_doAddTram 63 = .ok (.iconst 0, 1) := by decide +kernel
theorem dX9_doAddTram_64 : decode cX9_doAddTram 64 = .ok (.iastore, 1) := by decide +kernel
theorem dX9_doAddTram_65 : decode cX9_doAddTram 65 = .ok (.aload_n 0, 1) := by decide +kernel
theorem dX9_doAddTram_66 : decode cX9_doAddTram 66 = .ok (.getfield 9, 3) := by decide +kernel
theorem dX9_doAddTram_69 : decode cX9_doAddTram 69 = .ok (.iconst 2, 1) := by decide +kernel
theorem dX9_doAddTram_70 : decode cX9_doAddTram 70 = .ok (.dup2, 1) := by decide +kernel
theorem dX9_doAddTram_71 : decode cX9_doAddTram 71 = .ok (.iaload, 1) := by decide +kernel
theorem dX9_doAddTram_72 : decode cX9_doAddTram 72 = .ok (.iconst 1, 1) := by decide +kernel
theorem dX9_doAddTram_73 : decode cX9_doAddTram 73 = .ok (.iadd, 1) := by decide +kernel
theorem dX9_doAddTram_74 : decode cX9_doAddTram 74 = .ok (.iastore, 1) := by decide +kernel
theorem dX9_doAddTram_75 : decode cX9_doAddTram 75 = .ok (.iload_n 2, 1) := by decide +kernel
theorem dX9_doAddTram_76 : decode cX9_doAddTram 76 = .ok (.ireturn, 1) := by decide +kernel
theorem dX9_addTram_0 : decode cX9_addTram 0 = .ok (.aload_n 0, 1) := by decide +kernel
theorem dX9_addTram_1 : decode cX9_addTram 1 = .ok (.invokevirtual 66, 3) := by decide +kernel
theorem dX9_addTram_4 : decode cX9_addTram 4 = .ok (.aload_n 0, 1) := by decide +kernel
theorem dX9_addTram_5 : decode cX9_addTram 5 = .ok (.aload_n 0, 1) := by decide +kernel
theorem dX9_addTram_6 : decode cX9_addTram 6 = .ok (.iload_n 1, 1) := by decide +kernel
theorem dX9_addTram_7 : decode cX9_addTram 7 = .ok (.invokevirtual 98, 3) := by decide +kernel
theorem dX9_addTram_10 : decode cX9_addTram 10 = .ok (.invokevirtual 72, 3) := by decide +kernel
theorem dX9_addTram_13 : decode cX9_addTram 13 = .ok (.ireturn, 1) := by decide +kernel
theorem dX9_moves_0 : decode cX9_moves 0 = .ok (.bipush 51, 2) := by decide +kernel
theorem dX9_moves_2 : decode cX9_moves 2 = .ok (.iconst 3, 1) := by decide +kernel
theorem dX9_moves_3 : decode cX9_moves 3 = .ok (.iload_n 1, 1) := by decide +kernel
theorem dX9_moves_4 : decode cX9_moves 4 = .ok (.imul, 1) := by decide +kernel
theorem dX9_moves_5 : decode cX9_moves 5 = .ok (.iadd, 1) := by decide +kernel
theorem dX9_moves_6 : decode cX9_moves 6 = .ok (.istore_n 2, 1) := by decide +kernel
theorem dX9_moves_7 : decode cX9_moves 7 = .ok (.aload_n 0, 1) := by decide +kernel
theorem dX9_moves_8 : decode cX9_moves 8 = .ok (.getfield 9, 3) := by decide +kernel
theorem dX9_moves_11 : decode cX9_moves 11 = .ok (.iload_n 2, 1) := by decide +kernel
theorem dX9_moves_12 : decode cX9_moves 12 = .ok (.iconst 1, 1) := by decide +kernel
theorem dX9_moves_13 : decode cX9_moves 13 = .ok (.iadd, 1) := by decide +kernel
theorem dX9_moves_14 : decode cX9_moves 14 = .ok (.dup2, 1) := by decide +kernel
theorem dX9_moves_15 : decode cX9_moves 15 = .ok (.iaload, 1) := by decide +kernel
theorem dX9_moves_16 : decode cX9_moves 16 = .ok (.aload_n 0, 1) := by decide +kernel
theorem dX9_moves_17 : decode cX9_moves 17 = .ok (.getfield 9, 3) := by decide +kernel
theorem dX9_moves_20 : decode cX9_moves 20 = .ok (.iload_n 2, 1) := by decide +kernel
theorem dX9_moves_21 : decode cX9_moves 21 = .ok (.iconst 2, 1) := by decide +kernel
theorem dX9_moves_22 : decode cX9_moves 22 = .ok (.iadd, 1) := by decide +kernel
theorem dX9_moves_23 : decode cX9_moves 23 = .ok (.iaload, 1) := by decide +kernel
theorem dX9_moves_24 : decode cX9_moves 24 = .ok (.iconst 1, 1) := by decide +kernel
theorem dX9_moves_25 : decode cX9_moves 25 = .ok (.if_icmp .ne 7, 3) := by decide +kernel
theorem dX9_moves_28 : decode cX9_moves 28 = .ok (.iconst (-1), 1) := by decide +kernel
theorem dX9_moves_29 : decode cX9_moves 29 = .ok (.goto 4, 3) := by decide +kernel
theorem dX9_moves_32 : decode cX9_moves 32 = .ok (.iconst 1, 1) := by decide +kernel
theorem dX9_moves_33 : decode cX9_moves 33 = .ok (.iadd, 1) := by decide +kernel
theorem dX9_moves_34 : decode cX9_moves 34 = .ok (.iastore, 1) := by decide +kernel
theorem dX9_moves_35 : decode cX9_moves 35 = .ok (.aload_n 0, 1) := by decide +kernel
theorem dX9_moves_36 : decode cX9_moves 36 = .ok (.getfield 9, 3) := by decide +kernel
theorem dX9_moves_39 : decode cX9_moves 39 = .ok (.iload_n 2, 1) := by decide +kernel
theorem dX9_moves_40 : decode cX9_moves 40 = .ok (.iconst 1, 1) := by decide +kernel
theorem dX9_moves_41 : decode cX9_moves 41 = .ok (.iadd, 1) := by decide +kernel
theorem dX9_moves_42 : decode cX9_moves 42 = .ok (.iaload, 1) := by decide +kernel
theorem dX9_moves_43 : decode cX9_moves 43 = .ok (.aload_n 0, 1) := by decide +kernel
theorem dX9_moves_44 : decode cX9_moves 44 = .ok (.aload_n 0, 1) := by decide +kernel
theorem dX9_moves_45 : decode cX9_moves 45 = .ok (.getfield 9, 3) := by decide +kernel
theorem dX9_moves_48 : decode cX9_moves 48 = .ok (.iload_n 2, 1) := by decide +kernel
theorem dX9_moves_49 : decode cX9_moves 49 = .ok (.iaload, 1) := by decide +kernel
theorem dX9_moves_50 : decode cX9_moves 50 = .ok (.invokevirtual 55, 3) := by decide +kernel
theorem dX9_moves_53 : decode cX9_moves 53 = .ok (.iconst 1, 1) := by decide +kernel
theorem dX9_moves_54 : decode cX9_moves 54 = .ok (.isub, 1) := by decide +kernel
theorem dX9_moves_55 : decode cX9_moves 55 = .ok (.if_icmp .ne 7, 3) := by decide +kernel
theorem dX9_moves_58 : decode cX9_moves 58 = .ok (.iconst 1, 1) := by decide +kernel
theorem dX9_moves_59 : decode cX9_moves 59 = .ok (.goto 4, 3) := by decide +kernel
theorem dX9_moves_62 : decode cX9_moves 62 = .ok (.iconst 0, 1) := by decide +kernel
theorem dX9_moves_63 : decode cX9_moves 63 = .ok (.istore_n 3, 1) := by decide +kernel
theorem dX9_moves_64 : decode cX9_moves 64 = .ok (.aload_n 0, 1) := by decide +kernel
theorem dX9_moves_65 : decode cX9_moves 65 = .ok (.getfield 9, 3) := by decide +kernel
theorem dX9_moves_68 : decode cX9_moves 68 = .ok (.iload_n 2, 1) := by decide +kernel
theorem dX9_moves_69 : decode cX9_moves 69 = .ok (.iconst 1, 1) := by decide +kernel
theorem dX9_moves_70 : decode cX9_moves 70 = .ok (.iadd, 1) := by decide +kernel
theorem dX9_moves_71 : decode cX9_moves 71 = .ok (.iaload, 1) := by decide +kernel
theorem dX9_moves_72 : decode cX9_moves 72 = .ok (.ifCond .ne 7, 3) := by decide +kernel
theorem dX9_moves_75 : decode cX9_moves 75 = .ok (.iconst 1, 1) := by decide +kernel
theorem dX9_moves_76 : decode cX9_moves 76 = .ok (.goto 4, 3) := by decide +kernel
theorem dX9_moves_79 : decode cX9_moves 79 = .ok (.iconst 0, 1) := by decide +kernel
theorem dX9_moves_80 : decode cX9_moves 80 = .ok (.istore 4, 2) := by decide +kernel
theorem dX9_moves_82 : decode cX9_moves 82 = .ok (.aload_n 0, 1) := by decide +kernel
theorem dX9_moves_83 : decode cX9_moves 83 = .ok (.getfield 9, 3) := by decide +kernel
theorem dX9_moves_86 : decode cX9_moves 86 = .ok (.iload_n 2, 1) := by decide +kernel
theorem dX9_moves_87 : decode cX9_moves 87 = .ok (.iconst 2, 1) := by decide +kernel
theorem dX9_moves_88 : decode cX9_moves 88 = .ok (.iadd, 1) := by decide +kernel
theorem dX9_moves_89 : decode cX9_moves 89 = .ok (.iload_n 3, 1) := by decide +kernel
theorem dX9_moves_90 : decode cX9_moves 90 = .ok (.ifCond .eq 7, 3) := by decide +kernel
theorem dX9_moves_93 : decode cX9_moves 93 = .ok (.iconst 1, 1) := by decide +kernel
theorem dX9_moves_94 : decode cX9_moves 94 = .ok (.goto 20, 3) := by decide +kernel
theorem dX9_moves_97 : decode cX9_moves 97 = .ok (.iload 4, 2) := by decide +kernel
theorem dX9_moves_99 : decode cX9_moves 99 = .ok (.ifCond .eq 7, 3) := by decide +kernel
theorem dX9_moves_102 : decode cX9_moves 102 = .ok (.iconst 0, 1) := by decide +kernel
theorem dX9_moves_103 : decode cX9_moves 103 = .ok (.goto 11, 3) := by decide +kernel
theorem dX9_moves_106 : decode cX9_moves 106 = .ok (.aload_n 0, 1) := by decide +kernel
theorem dX9_moves_107 : decode cX9_moves 107 = .ok (.getfield 9, 3) := by decide +kernel
theorem dX9_moves_110 : decode cX9_moves 110 = .ok (.iload_n 2, 1) := by decide +kernel
theorem dX9_moves_111 : decode cX9_moves 111 = .ok (.iconst 2, 1) := by decide +kernel
theorem dX9_moves_112 : decode cX9_moves 112 = .ok (.iadd, 1) := by decide +kernel
theorem dX9_moves_113 : decode cX9_moves 113 = .ok (.iaload, 1) := by decide +kernel
theorem dX9_moves_114 : decode cX9_moves 114 = .ok (.iastore, 1) := by decide +kernel
theorem dX9_moves_115 : decode cX9_moves 115 = .ok (.iload_n 3, 1) := by decide +kernel
theorem dX9_moves_116 : decode cX9_moves 116 = .ok (.ifCond .ne 8, 3) := by decide +kernel
theorem dX9_moves_119 : decode cX9_moves 119 = .ok (.iload 4, 2) := by decide +kernel
theorem dX9_moves_121 : decode cX9_moves 121 = .ok (.ifCond .eq 7, 3) := by decide +kernel
theorem dX9_moves_124 : decode cX9_moves 124 = .ok (.iconst 1, 1) := by decide +kernel
theorem dX9_moves_125 : decode cX9_moves 125 = .ok (.goto 4, 3) := by decide +kernel
theorem dX9_moves_128 : decode cX9_moves 128 = .ok (.iconst 0, 1) := by decide +kernel
theorem dX9_moves_129 : decode cX9_moves 129 = .ok (.ireturn, 1) := by decide +kernel
theorem dX9_doTick_0 : decode cX9_doTick 0 = .ok (.iconst 0, 1) := by decide +kernel
theorem dX9_doTick_1 : decode cX9_doTick 1 = .ok (.istore_n 1, 1) := by decide +kernel
theorem dX9_doTick_2 : decode cX9_doTick 2 = .ok (.iconst 0, 1) := by decide +kernel
theorem dX9_doTick_3 : decode cX9_doTick 3 = .ok (.istore_n 2, 1) := by decide +kernel
theorem dX9_doTick_4 : decode cX9_doTick 4 = .ok (.iload_n 2, 1) := by decide +kernel
theorem dX9_doTick_5 : decode cX9_doTick 5 = .ok (.aload_n 0, 1) := by decide +kernel
theorem dX9_doTick_6 : decode cX9_doTick 6 = .ok (.getfield 9, 3) := by decide +kernel
theorem dX9_doTick_9 : decode cX9_doTick 9 = .ok (.iconst 2, 1) := by decide +kernel
theorem dX9_doTick_10 : decode cX9_doTick 10 = .ok (.iaload, 1) := by decide +kernel
theorem dX9_doTick_11 : decode cX9_doTick 11 = .ok (.if_icmp .ge 25, 3) := by decide +kernel
theorem dX9_doTick_14 : decode cX9_doTick 14 = .ok (.iload_n 1, 1) := by decide +kernel
theorem dX9_doTick_15 : decode cX9_doTick 15 = .ok (.aload_n 0, 1) := by decide +kernel
theorem dX9_doTick_16 : decode cX9_doTick 16 = .ok (.iload_n 2, 1) := by decide +kernel
theorem dX9_doTick_17 : decode cX9_doTick 17 = .ok (.invokevirtual 101, 3) := by decide +kernel
theorem dX9_doTick_20 : decode cX9_doTick 20 = .ok (.ifCond .eq 7, 3) := by decide +kernel
theorem dX9_doTick_23 : decode cX9_doTick 23 = .ok (.iconst 1, 1) := by decide +kernel
theorem dX9_doTick_24 : decode cX9_doTick 24 = .ok (.goto 4, 3) := by decide +kernel
theorem dX9_doTick_27 : decode cX9_doTick 27 = .ok (.iconst 0, 1) := by decide +kernel
theorem dX9_doTick_28 : decode cX9_doTick 28 = .ok (.iadd, 1) := by decide +kernel
theorem dX9_doTick_29 : decode cX9_doTick 29 = .ok (.istore_n 1, 1) := by decide +kernel
theorem dX9_doTick_30 : decode cX9_doTick 30 = .ok (.iinc 2 1, 3) := by decide +kernel
theorem dX9_doTick_33 : decode cX9_doTick 33 = .ok (.goto (-29), 3) := by decide +kernel
theorem dX9_doTick_36 : decode cX9_doTick 36 = .ok (.aload_n 0, 1) := by decide +kernel
theorem dX9_doTick_37 : decode cX9_doTick 37 = .ok (.getfield 9, 3) := by decide +kernel
theorem dX9_doTick_40 : decode cX9_doTick 40 = .ok (.iconst 5, 1) := by decide +kernel
theorem dX9_doTick_41 : decode cX9_doTick 41 = .ok (.dup2, 1) := by decide +kernel
theorem dX9_doTick_42 : decode cX9_doTick 42 = .ok (.iaload, 1) := by decide +kernel
theorem dX9_doTick_43 : decode cX9_doTick 43 = .ok (.iconst 1, 1) := by decide +kernel
theorem dX9_doTick_44 : decode cX9_doTick 44 = .ok (.iadd, 1) := by decide +kernel
theorem dX9_doTick_45 : decode cX9_doTick 45 = .ok (.iastore, 1) := by decide +kernel
theorem dX9_doTick_46 : decode cX9_doTick 46 = .ok (.iload_n 1, 1) := by decide +kernel
theorem dX9_doTick_47 : decode cX9_doTick 47 = .ok (.ireturn, 1) := by decide +kernel
theorem dX9_tick_0 : decode cX9_tick 0 = .ok (.aload_n 0, 1) := by decide +kernel
theorem dX9_tick_1 : decode cX9_tick 1 = .ok (.invokevirtual 66, 3) := by decide +kernel
theorem dX9_tick_4 : decode cX9_tick 4 = .ok (.aload_n 0, 1) := by decide +kernel
theorem dX9_tick_5 : decode cX9_tick 5 = .ok (.aload_n 0, 1) := by decide +kernel
theorem dX9_tick_6 : decode cX9_tick 6 = .ok (.invokevirtual 104, 3) := by decide +kernel
theorem dX9_tick_9 : decode cX9_tick 9 = .ok (.invokevirtual 72, 3) := by decide +kernel
theorem dX9_tick_12 : decode cX9_tick 12 = .ok (.ireturn, 1) := by decide +kernel
theorem dX9_tickCount_0 : decode cX9_tickCount 0 = .ok (.aload_n 0, 1) := by decide +kernel
theorem dX9_tickCount_1 : decode cX9_tickCount 1 = .ok (.iconst 0, 1) := by decide +kernel
theorem dX9_tickCount_2 : decode cX9_tickCount 2 = .ok (.putfield 39, 3) := by decide +kernel
theorem dX9_tickCount_5 : decode cX9_tickCount 5 = .ok (.aload_n 0, 1) := by decide +kernel
theorem dX9_tickCount_6 : decode cX9_tickCount 6 = .ok (.getfield 9, 3) := by decide +kernel
theorem dX9_tickCount_9 : decode cX9_tickCount 9 = .ok (.iconst 5, 1) := by decide +kernel
theorem dX9_tickCount_10 : decode cX9_tickCount 10 = .ok (.iaload, 1) := by decide +kernel
theorem dX9_tickCount_11 : decode cX9_tickCount 11 = .ok (.ireturn, 1) := by decide +kernel
theorem dX9_tramCount_0 : decode cX9_tramCount 0 = .ok (.aload_n 0, 1) := by decide +kernel
theorem dX9_tramCount_1 : decode cX9_tramCount 1 = .ok (.iconst 0, 1) := by decide +kernel
theorem dX9_tramCount_2 : decode cX9_tramCount 2 = .ok (.putfield 39, 3) := by decide +kernel
theorem dX9_tramCount_5 : decode cX9_tramCount 5 = .ok (.aload_n 0, 1) := by decide +kernel
theorem dX9_tramCount_6 : decode cX9_tramCount 6 = .ok (.getfield 9, 3) := by decide +kernel
theorem dX9_tramCount_9 : decode cX9_tramCount 9 = .ok (.iconst 2, 1) := by decide +kernel
theorem dX9_tramCount_10 : decode cX9_tramCount 10 = .ok (.iaload, 1) := by decide +kernel
theorem dX9_tramCount_11 : decode cX9_tramCount 11 = .ok (.ireturn, 1) := by decide +kernel
theorem dX9_lineOfTram_0 : decode cX9_lineOfTram 0 = .ok (.aload_n 0, 1) := by decide +kernel
theorem dX9_lineOfTram_1 : decode cX9_lineOfTram 1 = .ok (.aload_n 0, 1) := by decide +kernel
theorem dX9_lineOfTram_2 : decode cX9_lineOfTram 2 = .ok (.iload_n 1, 1) := by decide +kernel
theorem dX9_lineOfTram_3 : decode cX9_lineOfTram 3 = .ok (.invokevirtual 108, 3) := by decide +kernel
theorem dX9_lineOfTram_6 : decode cX9_lineOfTram 6 = .ok (.invokevirtual 91, 3) := by decide +kernel
theorem dX9_lineOfTram_9 : decode cX9_lineOfTram 9 = .ok (.ifCond .eq 12, 3) := by decide +kernel
theorem dX9_lineOfTram_12 : decode cX9_lineOfTram 12 = .ok (.aload_n 0, 1) := by decide +kernel
theorem dX9_lineOfTram_13 : decode cX9_lineOfTram 13 = .ok (.iload_n 1, 1) := by decide +kernel
theorem dX9_lineOfTram_14 : decode cX9_lineOfTram 14 = .ok (.iconst 0, 1) := by decide +kernel
theorem dX9_lineOfTram_15 : decode cX9_lineOfTram 15 = .ok (.invokevirtual 111, 3) := by decide +kernel
theorem dX9_lineOfTram_18 : decode cX9_lineOfTram 18 = .ok (.goto 4, 3) := by decide +kernel
theorem dX9_lineOfTram_21 : decode cX9_lineOfTram 21 = .ok (.iconst 0, 1) := by decide +kernel
theorem dX9_lineOfTram_22 : decode cX9_lineOfTram 22 = .ok (.ireturn, 1) := by decide +kernel
theorem dX9_tramStop_0 : decode cX9_tramStop 0 = .ok (.aload_n 0, 1) := by decide +kernel
theorem dX9_tramStop_1 : decode cX9_tramStop 1 = .ok (.aload_n 0, 1) := by decide +kernel
theorem dX9_tramStop_2 : decode cX9_tramStop 2 = .ok (.iload_n 1, 1) := by decide +kernel
theorem dX9_tramStop_3 : decode cX9_tramStop 3 = .ok (.iconst 0, 1) := by decide +kernel
theorem dX9_tramStop_4 : decode cX9_tramStop 4 = .ok (.invokevirtual 111, 3) := by decide +kernel
theorem dX9_tramStop_7 : decode cX9_tramStop 7 = .ok (.aload_n 0, 1) := by decide +kernel
theorem dX9_tramStop_8 : decode cX9_tramStop 8 = .ok (.iload_n 1, 1) := by decide +kernel
theorem dX9_tramStop_9 : decode cX9_tramStop 9 = .ok (.iconst 1, 1) := by decide +kernel
theorem dX9_tramStop_10 : decode cX9_tramStop 10 = .ok (.invokevirtual 111, 3) := by decide +kernel
theorem dX9_tramStop_13 : decode cX9_tramStop 13 = .ok (.invokevirtual 59, 3) := by decide +kernel
theorem dX9_tramStop_16 : decode cX9_tramStop 16 = .ok (.ireturn, 1) := by decide +kernel
theorem dX9_stopOfTram_0 : decode cX9_stopOfTram 0 = .ok (.aload_n 0, 1) := by decide +kernel
theorem dX9_stopOfTram_1 : decode cX9_stopOfTram 1 = .ok (.aload_n 0, 1) := by decide +kernel
theorem dX9_stopOfTram_2 : decode cX9_stopOfTram 2 = .ok (.iload_n 1, 1) := by decide +kernel
theorem dX9_stopOfTram_3 : decode cX9_stopOfTram 3 = .ok (.invokevirtual 108, 3) := by decide +kernel
theorem dX9_stopOfTram_6 : decode cX9_stopOfTram 6 = .ok (.invokevirtual 91, 3) := by decide +kernel
theorem dX9_stopOfTram_9 : decode cX9_stopOfTram 9 = .ok (.ifCond .eq 11, 3) := by decide +kernel
theorem dX9_stopOfTram_12 : decode cX9_stopOfTram 12 = .ok (.aload_n 0, 1) := by decide +kernel
theorem dX9_stopOfTram_13 : decode cX9_stopOfTram 13 = .ok (.iload_n 1, 1) := by decide +kernel
theorem dX9_stopOfTram_14 : decode cX9_stopOfTram 14 = .ok (.invokevirtual 114, 3) := by decide +kernel
theorem dX9_stopOfTram_17 : decode cX9_stopOfTram 17 = .ok (.goto 4, 3) := by decide +kernel
theorem dX9_stopOfTram_20 : decode cX9_stopOfTram 20 = .ok (.iconst 0, 1) := by decide +kernel
theorem dX9_stopOfTram_21 : decode cX9_stopOfTram 21 = .ok (.ireturn, 1) := by decide +kernel
theorem dX9_isForward_0 : decode cX9_isForward 0 = .ok (.aload_n 0, 1) := by decide +kernel
theorem dX9_isForward_1 : decode cX9_isForward 1 = .ok (.aload_n 0, 1) := by decide +kernel
theorem dX9_isForward_2 : decode cX9_isForward 2 = .ok (.iload_n 1, 1) := by decide +kernel
theorem dX9_isForward_3 : decode cX9_isForward 3 = .ok (.invokevirtual 108, 3) := by decide +kernel
theorem dX9_isForward_6 : decode cX9_isForward 6 = .ok (.invokevirtual 91, 3) := by decide +kernel
theorem dX9_isForward_9 : decode cX9_isForward 9 = .ok (.ifCond .eq 16, 3) := by decide +kernel
theorem dX9_isForward_12 : decode cX9_isForward 12 = .ok (.aload_n 0, 1) := by decide +kernel
theorem dX9_isForward_13 : decode cX9_isForward 13 = .ok (.iload_n 1, 1) := by decide +kernel
theorem dX9_isForward_14 : decode cX9_isForward 14 = .ok (.iconst 2, 1) := by decide +kernel
theorem dX9_isForward_15 : decode cX9_isForward 15 = .ok (.invokevirtual 111, 3) := by decide +kernel
theorem dX9_isForward_18 : decode cX9_isForward 18 = .ok (.ifCond .ne 7, 3) := by decide +kernel
theorem dX9_isForward_21 : decode cX9_isForward 21 = .ok (.iconst 1, 1) := by decide +kernel
theorem dX9_isForward_22 : decode cX9_isForward 22 = .ok (.goto 4, 3) := by decide +kernel
theorem dX9_isForward_25 : decode cX9_isForward 25 = .ok (.iconst 0, 1) := by decide +kernel
theorem dX9_isForward_26 : decode cX9_isForward 26 = .ok (.ireturn, 1) := by decide +kernel
theorem dX9_crowd_0 : decode cX9_crowd 0 = .ok (.iconst 0, 1) := by decide +kernel
theorem dX9_crowd_1 : decode cX9_crowd 1 = .ok (.istore_n 2, 1) := by decide +kernel
theorem dX9_crowd_2 : decode cX9_crowd 2 = .ok (.iconst 0, 1) := by decide +kernel
theorem dX9_crowd_3 : decode cX9_crowd 3 = .ok (.istore_n 3, 1) := by decide +kernel
theorem dX9_crowd_4 : decode cX9_crowd 4 = .ok (.iload_n 3, 1) := by decide +kernel
theorem dX9_crowd_5 : decode cX9_crowd 5 = .ok (.aload_n 0, 1) := by decide +kernel
theorem dX9_crowd_6 : decode cX9_crowd 6 = .ok (.getfield 9, 3) := by decide +kernel
theorem dX9_crowd_9 : decode cX9_crowd 9 = .ok (.iconst 3, 1) := by decide +kernel
theorem dX9_crowd_10 : decode cX9_crowd 10 = .ok (.iaload, 1) := by decide +kernel
theorem dX9_crowd_11 : decode cX9_crowd 11 = .ok (.if_icmp .ge 27, 3) := by decide +kernel
theorem dX9_crowd_14 : decode cX9_crowd 14 = .ok (.iload_n 2, 1) := by decide +kernel
theorem dX9_crowd_15 : decode cX9_crowd 15 = .ok (.aload_n 0, 1) := by decide +kernel
theorem dX9_crowd_16 : decode cX9_crowd 16 = .ok (.iload_n 3, 1) := by decide +kernel
theorem dX9_crowd_17 : decode cX9_crowd 17 = .ok (.iconst 1, 1) := by decide +kernel
theorem dX9_crowd_18 : decode cX9_crowd 18 = .ok (.invokevirtual 117, 3) := by decide +kernel
theorem dX9_crowd_21 : decode cX9_crowd 21 = .ok (.iload_n 1, 1) := by decide +kernel
theorem dX9_crowd_22 : decode cX9_crowd 22 = .ok (.if_icmp .ne 7, 3) := by decide +kernel
theorem dX9_crowd_25 : decode cX9_crowd 25 = .ok (.iconst 1, 1) := by decide +kernel
theorem dX9_crowd_26 : decode cX9_crowd 26 = .ok (.goto 4, 3) := by decide +kernel
theorem dX9_crowd_29 : decode cX9_crowd 29 = .ok (.iconst 0, 1) := by decide +kernel
theorem dX9_crowd_30 : decode cX9_crowd 30 = .ok (.iadd, 1) := by decide +kernel
theorem dX9_crowd_31 : decode cX9_crowd 31 = .ok (.istore_n 2, 1) := by decide +kernel
theorem dX9_crowd_32 : decode cX9_crowd 32 = .ok (.iinc 3 1, 3) := by decide +kernel
theorem dX9_crowd_35 : decode cX9_crowd 35 = .ok (.goto (-31), 3) := by decide +kernel
theorem dX9_crowd_38 : decode cX9_crowd 38 = .ok (.iload_n 2, 1) := by decide +kernel
theorem dX9_crowd_39 : decode cX9_crowd 39 = .ok (.ireturn, 1) := by decide +kernel
theorem dX9_crowdOf_0 : decode cX9_crowdOf 0 = .ok (.aload_n 0, 1) := by decide +kernel
theorem dX9_crowdOf_1 : decode cX9_crowdOf 1 = .ok (.aload_n 0, 1) := by decide +kernel
theorem dX9_crowdOf_2 : decode cX9_crowdOf 2 = .ok (.iload_n 1, 1) := by decide +kernel
theorem dX9_crowdOf_3 : decode cX9_crowdOf 3 = .ok (.invokevirtual 108, 3) := by decide +kernel
theorem dX9_crowdOf_6 : decode cX9_crowdOf 6 = .ok (.invokevirtual 91, 3) := by decide +kernel
theorem dX9_crowdOf_9 : decode cX9_crowdOf 9 = .ok (.ifCond .eq 11, 3) := by decide +kernel
theorem dX9_crowdOf_12 : decode cX9_crowdOf 12 = .ok (.aload_n 0, 1) := by decide +kernel
theorem dX9_crowdOf_13 : decode cX9_crowdOf 13 = .ok (.iload_n 1, 1) := by decide +kernel
theorem dX9_crowdOf_14 : decode cX9_crowdOf 14 = .ok (.invokevirtual 120, 3) := by decide +kernel
theorem dX9_crowdOf_17 : decode cX9_crowdOf 17 = .ok (.goto 4, 3) := by decide +kernel
theorem dX9_crowdOf_20 : decode cX9_crowdOf 20 = .ok (.iconst 0, 1) := by decide +kernel
theorem dX9_crowdOf_21 : decode cX9_crowdOf 21 = .ok (.ireturn, 1) := by decide +kernel
theorem dX9_fullestTram_0 : decode cX9_fullestTram 0 = .ok (.aload_n 0, 1) := by decide +kernel
theorem dX9_fullestTram_1 : decode cX9_fullestTram 1 = .ok (.aload_n 0, 1) := by decide +kernel
theorem dX9_fullestTram_2 : decode cX9_fullestTram 2 = .ok (.getfield 9, 3) := by decide +kernel
theorem dX9_fullestTram_5 : decode cX9_fullestTram 5 = .ok (.iconst 2, 1) := by decide +kernel
theorem dX9_fullestTram_6 : decode cX9_fullestTram 6 = .ok (.iaload, 1) := by decide +kernel
theorem dX9_fullestTram_7 : decode cX9_fullestTram 7 = .ok (.ifCond .ne 7, 3) := by decide +kernel
theorem dX9_fullestTram_10 : decode cX9_fullestTram 10 = .ok (.iconst 1, 1) := by decide +kernel
theorem dX9_fullestTram_11 : decode cX9_fullestTram 11 = .ok (.goto 4, 3) := by decide +kernel
theorem dX9_fullestTram_14 : decode cX9_fullestTram 14 = .ok (.iconst 0, 1) := by decide +kernel
theorem dX9_fullestTram_15 : decode cX9_fullestTram 15 = .ok (.putfield 39, 3) := by decide +kernel
theorem dX9_fullestTram_18 : decode cX9_fullestTram 18 = .ok (.iconst 0, 1) := by decide +kernel
theorem dX9_fullestTram_19 : decode cX9_fullestTram 19 = .ok (.istore_n 1, 1) := by decide +kernel
theorem dX9_fullestTram_20 : decode cX9_fullestTram 20 = .ok (.iconst 1, 1) := by decide +kernel
theorem dX9_fullestTram_21 : decode cX9_fullestTram 21 = .ok (.istore_n 2, 1) := by decide +kernel
theorem dX9_fullestTram_22 : decode cX9_fullestTram 22 = .ok (.iload_n 2, 1) := by decide +kernel
theorem dX9_fullestTram_23 : decode cX9_fullestTram 23 = .ok (.aload_n 0, 1) := by decide +kernel
theorem dX9_fullestTram_24 : decode cX9_fullestTram 24 = .ok (.getfield 9, 3) := by decide +kernel
theorem dX9_fullestTram_27 : decode cX9_fullestTram 27 = .ok (.iconst 2, 1) := by decide +kernel
theorem dX9_fullestTram_28 : decode cX9_fullestTram 28 = .ok (.iaload, 1) := by decide +kernel
theorem dX9_fullestTram_29 : decode cX9_fullestTram 29 = .ok (.if_icmp .ge 28, 3) := by decide +kernel
theorem dX9_fullestTram_32 : decode cX9_fullestTram 32 = .ok (.aload_n 0, 1) := by decide +kernel
theorem dX9_fullestTram_33 : decode cX9_fullestTram 33 = .ok (.iload_n 2, 1) := by decide +kernel
theorem dX9_fullestTram_34 : decode cX9_fullestTram 34 = .ok (.invokevirtual 120, 3) := by decide +kernel
theorem dX9_fullestTram_37 : decode cX9_fullestTram 37 = .ok (.aload_n 0, 1) := by decide +kernel
theorem dX9_fullestTram_38 : decode cX9_fullestTram 38 = .ok (.iload_n 1, 1) := by decide +kernel
theorem dX9_fullestTram_39 : decode cX9_fullestTram 39 = .ok (.invokevirtual 120, 3) := by decide +kernel
theorem dX9_fullestTram_42 : decode cX9_fullestTram 42 = .ok (.if_icmp .le 7, 3) := by decide +kernel
theorem dX9_fullestTram_45 : decode cX9_fullestTram 45 = .ok (.iload_n 2, 1) := by decide +kernel
theorem dX9_fullestTram_46 : decode cX9_fullestTram 46 = .ok (.goto 4, 3) := by decide +kernel
theorem dX9_fullestTram_49 : decode cX9_fullestTram 49 = .ok (.iload_n 1, 1) := by decide +kernel
theorem dX9_fullestTram_50 : decode cX9_fullestTram 50 = .ok (.istore_n 1, 1) := by decide +kernel
theorem dX9_fullestTram_51 : decode cX9_fullestTram 51 = .ok (.iinc 2 1, 3) := by decide +kernel
theorem dX9_fullestTram_54 : decode cX9_fullestTram 54 = .ok (.goto (-32), 3) := by decide +kernel
theorem dX9_fullestTram_57 : decode cX9_fullestTram 57 = .ok (.iload_n 1, 1) := by decide +kernel
theorem dX9_fullestTram_58 : decode cX9_fullestTram 58 = .ok (.ireturn, 1) := by decide +kernel
theorem dX9_arrivalOf_0 : decode cX9_arrivalOf 0 = .ok (.aload_n 0, 1) := by decide +kernel
theorem dX9_arrivalOf_1 : decode cX9_arrivalOf 1 = .ok (.iload_n 1, 1) := by decide +kernel
theorem dX9_arrivalOf_2 : decode cX9_arrivalOf 2 = .ok (.invokevirtual 108, 3) := by decide +kernel
theorem dX9_arrivalOf_5 : decode cX9_arrivalOf 5 = .ok (.ifCond .eq 11, 3) := by decide +kernel
theorem dX9_arrivalOf_8 : decode cX9_arrivalOf 8 = .ok (.aload_n 0, 1) := by decide +kernel
theorem dX9_arrivalOf_9 : decode cX9_arrivalOf 9 = .ok (.iload_n 2, 1) := by decide +kernel
theorem dX9_arrivalOf_10 : decode cX9_arrivalOf 10 = .ok (.invokevirtual 75, 3) := by decide +kernel
theorem dX9_arrivalOf_13 : decode cX9_arrivalOf 13 = .ok (.ifCond .ne 9, 3) := by decide +kernel
theorem dX9_arrivalOf_16 : decode cX9_arrivalOf 16 = .ok (.aload_n 0, 1) := by decide +kernel
theorem dX9_arrivalOf_17 : decode cX9_arrivalOf 17 = .ok (.iconst 1, 1) := by decide +kernel
theorem dX9_arrivalOf_18 : decode cX9_arrivalOf 18 = .ok (.invokevirtual 63, 3) := by decide +kernel
theorem dX9_arrivalOf_21 : decode cX9_arrivalOf 21 = .ok (.ireturn, 1) := by decide +kernel
theorem dX9_arrivalOf_22 : decode cX9_arrivalOf 22 = .ok (.aload_n 0, 1) := by decide +kernel
theorem dX9_arrivalOf_23 : decode cX9_arrivalOf 23 = .ok (.aload_n 0, 1) := by decide +kernel
theorem dX9_arrivalOf_24 : decode cX9_arrivalOf 24 = .ok (.aload_n 0, 1) := by decide +kernel
theorem dX9_arrivalOf_25 : decode cX9_arrivalOf 25 = .ok (.iload_n 1, 1) := by decide +kernel
theorem dX9_arrivalOf_26 : decode cX9_arrivalOf 26 = .ok (.iconst 0, 1) := by decide +kernel
theorem dX9_arrivalOf_27 : decode cX9_arrivalOf 27 = .ok (.invokevirtual 111, 3) := by decide +kernel
theorem dX9_arrivalOf_30 : decode cX9_arrivalOf 30 = .ok (.iload_n 2, 1) := by decide +kernel
theorem dX9_arrivalOf_31 : decode cX9_arrivalOf 31 = .ok (.invokevirtual 85, 3) := by decide +kernel
theorem dX9_arrivalOf_34 : decode cX9_arrivalOf 34 = .ok (.ifCond .ge 7, 3) := by decide +kernel
theorem dX9_arrivalOf_37 : decode cX9_arrivalOf 37 = .ok (.iconst 2, 1) := by decide +kernel
theorem dX9_arrivalOf_38 : decode cX9_arrivalOf 38 = .ok (.goto 4, 3) := by decide +kernel
theorem dX9_arrivalOf_41 : decode cX9_arrivalOf 41 = .ok (.iconst 0, 1) := by decide +kernel
theorem dX9_arrivalOf_42 : decode cX9_arrivalOf 42 = .ok (.putfield 39, 3) := by decide +kernel
theorem dX9_arrivalOf_45 : decode cX9_arrivalOf 45 = .ok (.aload_n 0, 1) := by decide +kernel
theorem dX9_arrivalOf_46 : decode cX9_arrivalOf 46 = .ok (.getfield 39, 3) := by decide +kernel
theorem dX9_arrivalOf_49 : decode cX9_arrivalOf 49 = .ok (.ifCond .le 5, 3) := by decide +kernel
theorem dX9_arrivalOf_52 : decode cX9_arrivalOf 52 = .ok (.iconst 0, 1) := by decide +kernel
theorem dX9_arrivalOf_53 : decode cX9_arrivalOf 53 = .ok (.ireturn, 1) := by decide +kernel
theorem dX9_arrivalOf_54 : decode cX9_arrivalOf 54 = .ok (.bipush 51, 2) := by decide +kernel
theorem dX9_arrivalOf_56 : decode cX9_arrivalOf 56 = .ok (.iconst 3, 1) := by decide +kernel
theorem dX9_arrivalOf_57 : decode cX9_arrivalOf 57 = .ok (.iload_n 1, 1) := by decide +kernel
theorem dX9_arrivalOf_58 : decode cX9_arrivalOf 58 = .ok (.imul, 1) := by decide +kernel
theorem dX9_arrivalOf_59 : decode cX9_arrivalOf 59 = .ok (.iadd, 1) := by decide +kernel
theorem dX9_arrivalOf_60 : decode cX9_arrivalOf 60 = .ok (.istore_n 3, 1) := by decide +kernel
theorem dX9_arrivalOf_61 : decode cX9_arrivalOf 61 = .ok (.aload_n 0, 1) := by decide +kernel
theorem dX9_arrivalOf_62 : decode cX9_arrivalOf 62 = .ok (.getfield 9, 3) := by decide +kernel
theorem dX9_arrivalOf_65 : decode cX9_arrivalOf 65 = .ok (.iload_n 3, 1) := by decide +kernel
theorem dX9_arrivalOf_66 : decode cX9_arrivalOf 66 = .ok (.iconst 1, 1) := by decide +kernel
theorem dX9_arrivalOf_67 : decode cX9_arrivalOf 67 = .ok (.iadd, 1) := by decide +kernel
theorem dX9_arrivalOf_68 : decode cX9_arrivalOf 68 = .ok (.iaload, 1) := by decide +kernel
theorem dX9_arrivalOf_69 : decode cX9_arrivalOf 69 = .ok (.istore 4, 2) := by decide +kernel
theorem dX9_arrivalOf_71 : decode cX9_arrivalOf 71 = .ok (.aload_n 0, 1) := by decide +kernel
theorem dX9_arrivalOf_72 : decode cX9_arrivalOf 72 = .ok (.getfield 9, 3) := by decide +kernel
theorem dX9_arrivalOf_75 : decode cX9_arrivalOf 75 = .ok (.iload_n 3, 1) := by decide +kernel
theorem dX9_arrivalOf_76 : decode cX9_arrivalOf 76 = .ok (.iconst 2, 1) := by decide +kernel
theorem dX9_arrivalOf_77 : decode cX9_arrivalOf 77 = .ok (.iadd, 1) := by decide +kernel
theorem dX9_arrivalOf_78 : decode cX9_arrivalOf 78 = .ok (.iaload, 1) := by decide +kernel
theorem dX9_arrivalOf_79 : decode cX9_arrivalOf 79 = .ok (.istore 5, 2) := by decide +kernel
theorem dX9_arrivalOf_81 : decode cX9_arrivalOf 81 = .ok (.iconst 0, 1) := by decide +kernel
theorem dX9_arrivalOf_82 : decode cX9_arrivalOf 82 = .ok (.istore 6, 2) := by decide +kernel
theorem dX9_arrivalOf_84 : decode cX9_arrivalOf 84 = .ok (.aload_n 0, 1) := by decide +kernel
theorem dX9_arrivalOf_85 : decode cX9_arrivalOf 85 = .ok (.iload_n 1, 1) := by decide +kernel
theorem dX9_arrivalOf_86 : decode cX9_arrivalOf 86 = .ok (.invokevirtual 114, 3) := by decide +kernel
theorem dX9_arrivalOf_89 : decode cX9_arrivalOf 89 = .ok (.iload_n 2, 1) := by decide +kernel
theorem dX9_arrivalOf_90 : decode cX9_arrivalOf 90 = .ok (.if_icmp .eq 16, 3) := by decide +kernel
theorem dX9_arrivalOf_93 : decode cX9_arrivalOf 93 = .ok (.aload_n 0, 1) := by decide +kernel
theorem dX9_arrivalOf_94 : decode cX9_arrivalOf 94 = .ok (.iload_n 1, 1) := by decide +kernel
theorem dX9_arrivalOf_95 : decode cX9_arrivalOf 95 = .ok (.invokevirtual 101, 3) := by decide +kernel
theorem dX9_arrivalOf_98 : decode cX9_arrivalOf 98 = .ok (.istore 7, 2) := by decide +kernel
theorem dX9_arrivalOf_100 : decode cX9_arrivalOf 100 = .ok (.iinc 6 1, 3) := by decide +kernel
theorem dX9_arrivalOf_103 : decode cX9_arrivalOf 103 = .ok (.goto (-19), 3) := by decide +kernel
theorem dX9_arrivalOf_106 : decode cX9_arrivalOf 106 = .ok (.aload_n 0, 1) := by decide +kernel
theorem dX9_arrivalOf_107 : decode cX9_arrivalOf 107 = .ok (.getfield 9, 3) := by decide +kernel
theorem dX9_arrivalOf_110 : decode cX9_arrivalOf 110 = .ok (.iload_n 3, 1) := by decide +kernel
theorem dX9_arrivalOf_111 : decode cX9_arrivalOf 111 = .ok (.iconst 1, 1) := by decide +kernel
theorem dX9_arrivalOf_112 : decode cX9_arrivalOf 112 = .ok (.iadd, 1) := by decide +kernel
theorem dX9_arrivalOf_113 : decode cX9_arrivalOf 113 = .ok (.iload 4, 2) := by decide +kernel
theorem dX9_arrivalOf_115 : decode cX9_arrivalOf 115 = .ok (.iastore, 1) := by decide +kernel
theorem dX9_arrivalOf_116 : decode cX9_arrivalOf 116 = .ok (.aload_n 0, 1) := by decide +kernel
theorem dX9_arrivalOf_117 : decode cX9_arrivalOf 117 = .ok (.getfield 9, 3) := by decide +kernel
theorem dX9_arrivalOf_120 : decode cX9_arrivalOf 120 = .ok (.iload_n 3, 1) := by decide +kernel
theorem dX9_arrivalOf_121 : decode cX9_arrivalOf 121 = .ok (.iconst 2, 1) := by decide +kernel
theorem dX9_arrivalOf_122 : decode cX9_arrivalOf 122 = .ok (.iadd, 1) := by decide +kernel
theorem dX9_arrivalOf_123 : decode cX9_arrivalOf 123 = .ok (.iload 5, 2) := by decide +kernel
theorem dX9_arrivalOf_125 : decode cX9_arrivalOf 125 = .ok (.iastore, 1) := by decide +kernel
theorem dX9_arrivalOf_126 : decode cX9_arrivalOf 126 = .ok (.iload 6, 2) := by decide +kernel
theorem dX9_arrivalOf_128 : decode cX9_arrivalOf 128 = .ok (.ireturn, 1) := by decide +kernel
theorem dX9_arrivalBySimulation_0 : decode cX9_arrivalBySimulation 0 = .ok (.aload_n 0, 1) := by decide +kernel
theorem dX9_arrivalBySimulation_1 : decode cX9_arrivalBySimulation 1 = .ok (.iload_n 1, 1) := by decide +kernel
theorem dX9_arrivalBySimulation_2 : decode cX9_arrivalBySimulation 2 = .ok (.iload_n 2, 1) := by decide +kernel
theorem dX9_arrivalBySimulation_3 : decode cX9_arrivalBySimulation 3 = .ok (.invokevirtual 123, 3) := by decide +kernel
theorem dX9_arrivalBySimulation_6 : decode cX9_arrivalBySimulation 6 = .ok (.ireturn, 1) := by decide +kernel
theorem dX9_ofPassenger_0 : decode cX9_ofPassenger 0 = .ok (.aload_n 0, 1) := by decide +kernel
theorem dX9_ofPassenger_1 : decode cX9_ofPassenger 1 = .ok (.getfield 9, 3) := by decide +kernel
theorem dX9_ofPassenger_4 : decode cX9_ofPassenger 4 = .ok (.bipush 69, 2) := by decide +kernel
theorem dX9_ofPassenger_6 : decode cX9_ofPassenger 6 = .ok (.bipush 6, 2) := by decide +kernel
theorem dX9_ofPassenger_8 : decode cX9_ofPassenger 8 = .ok (.iload_n 1, 1) := by decide +kernel
theorem dX9_ofPassenger_9 : decode cX9_ofPassenger 9 = .ok (.imul, 1) := by decide +kernel
theorem dX9_ofPassenger_10 : decode cX9_ofPassenger 10 = .ok (.iadd, 1) := by decide +kernel
theorem dX9_ofPassenger_11 : decode cX9_ofPassenger 11 = .ok (.iload_n 2, 1) := by decide +kernel
theorem dX9_ofPassenger_12 : decode cX9_ofPassenger 12 = .ok (.iadd, 1) := by decide +kernel
theorem dX9_ofPassenger_13 : decode cX9_ofPassenger 13 = .ok (.iaload, 1) := by decide +kernel
theorem dX9_ofPassenger_14 : decode cX9_ofPassenger 14 = .ok (.ireturn, 1) := by decide +kernel
theorem dX9_sets_0 : decode cX9_sets 0 = .ok (.aload_n 0, 1) := by decide +kernel
theorem dX9_sets_1 : decode cX9_sets 1 = .ok (.getfield 9, 3) := by decide +kernel
theorem dX9_sets_4 : decode cX9_sets 4 = .ok (.bipush 69, 2) := by decide +kernel
theorem dX9_sets_6 : decode cX9_sets 6 = .ok (.bipush 6, 2) := by decide +kernel
theorem dX9_sets_8 : decode cX9_sets 8 = .ok (.iload_n 1, 1) := by decide +kernel
theorem dX9_sets_9 : decode cX9_sets 9 = .ok (.imul, 1) := by decide +kernel
theorem dX9_sets_10 : decode cX9_sets 10 = .ok (.iadd, 1) := by decide +kernel
theorem dX9_sets_11 : decode cX9_sets 11 = .ok (.iload_n 2, 1) := by decide +kernel
theorem dX9_sets_12 : decode cX9_sets 12 = .ok (.iadd, 1) := by decide +kernel
theorem dX9_sets_13 : decode cX9_sets 13 = .ok (.iload_n 3, 1) := by decide +kernel
theorem dX9_sets_14 : decode cX9_sets 14 = .ok (.iastore, 1) := by decide +kernel
theorem dX9_sets_15 : decode cX9_sets 15 = .ok (.return_, 1) := by decide +kernel
theorem dX9_doAddPassenger_0 : decode cX9_doAddPassenger 0 = .ok (.aload_n 0, 1) := by decide +kernel
theorem dX9_doAddPassenger_1 : decode cX9_doAddPassenger 1 = .ok (.getfield 9, 3) := by decide +kernel
theorem dX9_doAddPassenger_4 : decode cX9_doAddPassenger 4 = .ok (.iconst 3, 1) := by decide +kernel
theorem dX9_doAddPassenger_5 : decode cX9_doAddPassenger 5 = .ok (.iaload, 1) := by decide +kernel
theorem dX9_doAddPassenger_6 : decode cX9_doAddPassenger 6 = .ok (.istore_n 2, 1) := by decide +kernel
theorem dX9_doAddPassenger_7 : decode cX9_doAddPassenger 7 = .ok (.aload_n 0, 1) := by decide +kernel
theorem dX9_doAddPassenger_8 : decode cX9_doAddPassenger 8 = .ok (.iload_n 1, 1) := by decide +kernel
theorem dX9_doAddPassenger_9 : decode cX9_doAddPassenger 9 = .ok (.invokevirtual 75, 3) := by decide +kernel
theorem dX9_doAddPassenger_12 : decode cX9_doAddPassenger 12 = .ok (.ifCond .ne 9, 3) := by decide +kernel
theorem dX9_doAddPassenger_15 : decode cX9_doAddPassenger 15 = .ok (.aload_n 0, 1) := by decide +kernel
theorem dX9_doAddPassenger_16 : decode cX9_doAddPassenger 16 = .ok (.iconst 1, 1) := by decide +kernel
theorem dX9_doAddPassenger_17 : decode cX9_doAddPassenger 17 = .ok (.invokevirtual 63, 3) := by decide +kernel
theorem dX9_doAddPassenger_20 : decode cX9_doAddPassenger 20 = .ok (.ireturn, 1) := by decide +kernel
theorem dX9_doAddPassenger_21 : decode cX9_doAddPassenger 21 = .ok (.iload_n 2, 1) := by decide +kernel
theorem dX9_doAddPassenger_22 : decode cX9_doAddPassenger 22 = .ok (.bipush 8, 2) := by decide +kernel
theorem dX9_doAddPassenger_24 : decode cX9_doAddPassenger 24 = .ok (.if_icmp .ne 9, 3) := by decide +kernel
theorem dX9_doAddPassenger_27 : decode cX9_doAddPassenger 27 = .ok (.aload_n 0, 1) := by decide +kernel
theorem dX9_doAddPassenger_28 : decode cX9_doAddPassenger 28 = .ok (.iconst 2, 1) := by decide +kernel
theorem dX9_doAddPassenger_29 : decode cX9_doAddPassenger 29 = .ok (.invokevirtual 63, 3) := by decide +kernel
theorem dX9_doAddPassenger_32 : decode cX9_doAddPassenger 32 = .ok (.ireturn, 1) := by decide +kernel
theorem dX9_doAddPassenger_33 : decode cX9_doAddPassenger 33 = .ok (.aload_n 0, 1) := by decide +kernel
theorem dX9_doAddPassenger_34 : decode cX9_doAddPassenger 34 = .ok (.iload_n 2, 1) := by decide +kernel
theorem dX9_doAddPassenger_35 : decode cX9_doAddPassenger 35 = .ok (.iconst 0, 1) := by decide +kernel
theorem dX9_doAddPassenger_36 : decode cX9_doAddPassenger 36 = .ok (.iload_n 1, 1) := by decide +kernel
theorem dX9_doAddPassenger_37 : decode cX9_doAddPassenger 37 = .ok (.invokevirtual 126, 3) := by decide +kernel
theorem dX9_doAddPassenger_40 : decode cX9_doAddPassenger 40 = .ok (.aload_n 0, 1) := by decide +kernel
theorem dX9_doAddPassenger_41 : decode cX9_doAddPassenger 41 = .ok (.iload_n 2, 1) := by decide +kernel
theorem dX9_doAddPassenger_42 : decode cX9_doAddPassenger 42 = .ok (.iconst 1, 1) := by decide +kernel
theorem dX9_doAddPassenger_43 : decode cX9_doAddPassenger 43 = .ok (.iconst (-1), 1) := by decide +kernel
theorem dX9_doAddPassenger_44 : decode cX9_doAddPassenger 44 = .ok (.invokevirtual 126, 3) := by decide +kernel
theorem dX9_doAddPassenger_47 : decode cX9_doAddPassenger 47 = .ok (.aload_n 0, 1) := by decide +kernel
theorem dX9_doAddPassenger_48 : decode cX9_doAddPassenger 48 = .ok (.iload_n 2, 1) := by decide +kernel
theorem dX9_doAddPassenger_49 : decode cX9_doAddPassenger 49 = .ok (.iconst 2, 1) := by decide +kernel
theorem dX9_doAddPassenger_50 : decode cX9_doAddPassenger 50 = .ok (.iconst 0, 1) := by decide +kernel
theorem dX9_doAddPassenger_51 : decode cX9_doAddPassenger 51 = .ok (.invokevirtual 126, 3) := by decide +kernel
theorem dX9_doAddPassenger_54 : decode cX9_doAddPassenger 54 = .ok (.aload_n 0, 1) := by decide +kernel
theorem dX9_doAddPassenger_55 : decode cX9_doAddPassenger 55 = .ok (.iload_n 2, 1) := by decide +kernel
theorem dX9_doAddPassenger_56 : decode cX9_doAddPassenger 56 = .ok (.iconst 3, 1) := by decide +kernel
theorem dX9_doAddPassenger_57 : decode cX9_doAddPassenger 57 = .ok (.iconst 0, 1) := by decide +kernel
theorem dX9_doAddPassenger_58 : decode cX9_doAddPassenger 58 = .ok (.invokevirtual 126, 3) := by decide +kernel
theorem dX9_doAddPassenger_61 : decode cX9_doAddPassenger 61 = .ok (.aload_n 0, 1) := by decide +kernel
theorem dX9_doAddPassenger_62 : decode cX9_doAddPassenger 62 = .ok (.iload_n 2, 1) := by decide +kernel
theorem dX9_doAddPassenger_63 : decode cX9_doAddPassenger 63 = .ok (.iconst 4, 1) := by decide +kernel
theorem dX9_doAddPassenger_64 : decode cX9_doAddPassenger 64 = .ok (.iconst (-1), 1) := by decide +kernel
theorem dX9_doAddPassenger_65 : decode cX9_doAddPassenger 65 = .ok (.invokevirtual 126, 3) := by decide +kernel
theorem dX9_doAddPassenger_68 : decode cX9_doAddPassenger 68 = .ok (.aload_n 0, 1) := by decide +kernel
theorem dX9_doAddPassenger_69 : decode cX9_doAddPassenger 69 = .ok (.iload_n 2, 1) := by decide +kernel
theorem dX9_doAddPassenger_70 : decode cX9_doAddPassenger 70 = .ok (.iconst 5, 1) := by decide +kernel
theorem dX9_doAddPassenger_71 : decode cX9_doAddPassenger 71 = .ok (.iconst 0, 1) := by decide +kernel
theorem dX9_doAddPassenger_72 : decode cX9_doAddPassenger 72 = .ok (.invokevirtual 126, 3) := by decide +kernel
theorem dX9_doAddPassenger_75 : decode cX9_doAddPassenger 75 = .ok (.aload_n 0, 1) := by decide +kernel
theorem dX9_doAddPassenger_76 : decode cX9_doAddPassenger 76 = .ok (.getfield 9, 3) := by decide +kernel
theorem dX9_doAddPassenger_79 : decode cX9_doAddPassenger 79 = .ok (.iconst 3, 1) := by decide +kernel
theorem dX9_doAddPassenger_80 : decode cX9_doAddPassenger 80 = .ok (.dup2, 1) := by decide +kernel
theorem dX9_doAddPassenger_81 : decode cX9_doAddPassenger 81 = .ok (.iaload, 1) := by decide +kernel
theorem dX9_doAddPassenger_82 : decode cX9_doAddPassenger 82 = .ok (.iconst 1, 1) := by decide +kernel
theorem dX9_doAddPassenger_83 : decode cX9_doAddPassenger 83 = .ok (.iadd, 1) := by decide +kernel
theorem dX9_doAddPassenger_84 : decode cX9_doAddPassenger 84 = .ok (.iastore, 1) := by decide +kernel
theorem dX9_doAddPassenger_85 : decode cX9_doAddPassenger 85 = .ok (.iload_n 2, 1) := by decide +kernel
theorem dX9_doAddPassenger_86 : decode cX9_doAddPassenger 86 = .ok (.ireturn, 1) := by decide +kernel
theorem dX9_addPassenger_0 : decode cX9_addPassenger 0 = .ok (.aload_n 0, 1) := by decide +kernel
theorem dX9_addPassenger_1 : decode cX9_addPassenger 1 = .ok (.invokevirtual 66, 3) := by decide +kernel
theorem dX9_addPassenger_4 : decode cX9_addPassenger 4 = .ok (.aload_n 0, 1) := by decide +kernel
theorem dX9_addPassenger_5 : decode cX9_addPassenger 5 = .ok (.aload_n 0, 1) := by decide +kernel
theorem dX9_addPassenger_6 : decode cX9_addPassenger 6 = .ok (.iload_n 1, 1) := by decide +kernel
theorem dX9_addPassenger_7 : decode cX9_addPassenger 7 = .ok (.invokevirtual 130, 3) := by decide +kernel
theorem dX9_addPassenger_10 : decode cX9_addPassenger 10 = .ok (.invokevirtual 72, 3) := by decide +kernel
theorem dX9_addPassenger_13 : decode cX9_addPassenger 13 = .ok (.ireturn, 1) := by decide +kernel
theorem dX9_doSellTicket_0 : decode cX9_doSellTicket 0 = .ok (.aload_n 0, 1) := by decide +kernel
theorem dX9_doSellTicket_1 : decode cX9_doSellTicket 1 = .ok (.iload_n 1, 1) := by decide +kernel
theorem dX9_doSellTicket_2 : decode cX9_doSellTicket 2 = .ok (.invokevirtual 133, 3) := by decide +kernel
theorem dX9_doSellTicket_5 : decode cX9_doSellTicket 5 = .ok (.ifCond .ne 9, 3) := by decide +kernel
theorem dX9_doSellTicket_8 : decode cX9_doSellTicket 8 = .ok (.aload_n 0, 1) := by decide +kernel
theorem dX9_doSellTicket_9 : decode cX9_doSellTicket 9 = .ok (.iconst 1, 1) := by decide +kernel
theorem dX9_doSellTicket_10 : decode cX9_doSellTicket 10 = .ok (.invokevirtual 63, 3) := by decide +kernel
theorem dX9_doSellTicket_13 : decode cX9_doSellTicket 13 = .ok (.ireturn, 1) := by decide +kernel
theorem dX9_doSellTicket_14 : decode cX9_doSellTicket 14 = .ok (.iload_n 2, 1) := by decide +kernel
theorem dX9_doSellTicket_15 : decode cX9_doSellTicket 15 = .ok (.iconst 0, 1) := by decide +kernel
theorem dX9_doSellTicket_16 : decode cX9_doSellTicket 16 = .ok (.iconst 3, 1) := by decide +kernel
theorem dX9_doSellTicket_17 : decode cX9_doSellTicket 17 = .ok (.invokestatic 51, 3) := by decide +kernel
theorem dX9_doSellTicket_20 : decode cX9_doSellTicket 20 = .ok (.ifCond .eq 13, 3) := by decide +kernel
theorem dX9_doSellTicket_23 : decode cX9_doSellTicket 23 = .ok (.iload_n 3, 1) := by decide +kernel
theorem dX9_doSellTicket_24 : decode cX9_doSellTicket 24 = .ok (.iconst 1, 1) := by decide +kernel
theorem dX9_doSellTicket_25 : decode cX9_doSellTicket 25 = .ok (.bipush 9, 2) := by decide +kernel
theorem dX9_doSellTicket_27 : decode cX9_doSellTicket 27 = .ok (.invokestatic 51, 3) := by decide +kernel
theorem dX9_doSellTicket_30 : decode cX9_doSellTicket 30 = .ok (.ifCond .ne 9, 3) := by decide +kernel
theorem dX9_doSellTicket_33 : decode cX9_doSellTicket 33 = .ok (.aload_n 0, 1) := by decide +kernel
theorem dX9_doSellTicket_34 : decode cX9_doSellTicket 34 = .ok (.iconst 2, 1) := by decide +kernel
theorem dX9_doSellTicket_35 : decode cX9_doSellTicket 35 = .ok (.invokevirtual 63, 3) := by decide +kernel
theorem dX9_doSellTicket_38 : decode cX9_doSellTicket 38 = .ok (.ireturn, 1) := by decide +kernel
theorem dX9_doSellTicket_39 : decode cX9_doSellTicket 39 = .ok (.aload_n 0, 1) := by decide +kernel
theorem dX9_doSellTicket_40 : decode cX9_doSellTicket 40 = .ok (.iload_n 1, 1) := by decide +kernel
theorem dX9_doSellTicket_41 : decode cX9_doSellTicket 41 = .ok (.iconst 3, 1) := by decide +kernel
theorem dX9_doSellTicket_42 : decode cX9_doSellTicket 42 = .ok (.invokevirtual 117, 3) := by decide +kernel
theorem dX9_doSellTicket_45 : decode cX9_doSellTicket 45 = .ok (.iload_n 3, 1) := by decide +kernel
theorem dX9_doSellTicket_46 : decode cX9_doSellTicket 46 = .ok (.iadd, 1) := by decide +kernel
theorem dX9_doSellTicket_47 : decode cX9_doSellTicket 47 = .ok (.istore 4, 2) := by decide +kernel
theorem dX9_doSellTicket_49 : decode cX9_doSellTicket 49 = .ok (.iload 4, 2) := by decide +kernel
theorem dX9_doSellTicket_51 : decode cX9_doSellTicket 51 = .ok (.bipush 20, 2) := by decide +kernel
theorem dX9_doSellTicket_53 : decode cX9_doSellTicket 53 = .ok (.if_icmp .le 9, 3) := by decide +kernel
theorem dX9_doSellTicket_56 : decode cX9_doSellTicket 56 = .ok (.aload_n 0, 1) := by decide +kernel
theorem dX9_doSellTicket_57 : decode cX9_doSellTicket 57 = .ok (.iconst 3, 1) := by decide +kernel
theorem dX9_doSellTicket_58 : decode cX9_doSellTicket 58 = .ok (.invokevirtual 63, 3) := by decide +kernel
theorem dX9_doSellTicket_61 : decode cX9_doSellTicket 61 = .ok (.ireturn, 1) := by decide +kernel
theorem dX9_doSellTicket_62 : decode cX9_doSellTicket 62 = .ok (.aload_n 0, 1) := by decide +kernel
theorem dX9_doSellTicket_63 : decode cX9_doSellTicket 63 = .ok (.iload_n 1, 1) := by decide +kernel
theorem dX9_doSellTicket_64 : decode cX9_doSellTicket 64 = .ok (.iconst 2, 1) := by decide +kernel
theorem dX9_doSellTicket_65 : decode cX9_doSellTicket 65 = .ok (.aload_n 0, 1) := by decide +kernel
theorem dX9_doSellTicket_66 : decode cX9_doSellTicket 66 = .ok (.iload_n 1, 1) := by decide +kernel
theorem dX9_doSellTicket_67 : decode cX9_doSellTicket 67 = .ok (.iconst 2, 1) := by decide +kernel
theorem dX9_doSellTicket_68 : decode cX9_doSellTicket 68 = .ok (.invokevirtual 117, 3) := by decide +kernel
theorem dX9_doSellTicket_71 : decode cX9_doSellTicket 71 = .ok (.iconst 1, 1) := by decide +kernel
theorem dX9_doSellTicket_72 : decode cX9_doSellTicket 72 = .ok (.iload_n 2, 1) := by decide +kernel
theorem dX9_doSellTicket_73 : decode cX9_doSellTicket 73 = .ok (.ishl, 1) := by decide +kernel
theorem dX9_doSellTicket_74 : decode cX9_doSellTicket 74 = .ok (.ior, 1) := by decide +kernel
theorem dX9_doSellTicket_75 : decode cX9_doSellTicket 75 = .ok (.invokevirtual 126, 3) := by decide +kernel
theorem dX9_doSellTicket_78 : decode cX9_doSellTicket 78 = .ok (.aload_n 0, 1) := by decide +kernel
theorem dX9_doSellTicket_79 : decode cX9_doSellTicket 79 = .ok (.iload_n 1, 1) := by decide +kernel
theorem dX9_doSellTicket_80 : decode cX9_doSellTicket 80 = .ok (.iconst 3, 1) := by decide +kernel
theorem dX9_doSellTicket_81 : decode cX9_doSellTicket 81 = .ok (.iload 4, 2) := by decide +kernel
theorem dX9_doSellTicket_83 : decode cX9_doSellTicket 83 = .ok (.invokevirtual 126, 3) := by decide +kernel
theorem dX9_doSellTicket_86 : decode cX9_doSellTicket 86 = .ok (.iload 4, 2) := by decide +kernel
theorem dX9_doSellTicket_88 : decode cX9_doSellTicket 88 = .ok (.ireturn, 1) := by decide +kernel
theorem dX9_sellTicket_0 : decode cX9_sellTicket 0 = .ok (.aload_n 0, 1) := by decide +kernel
theorem dX9_sellTicket_1 : decode cX9_sellTicket 1 = .ok (.invokevirtual 66, 3) := by decide +kernel
theorem dX9_sellTicket_4 : decode cX9_sellTicket 4 = .ok (.aload_n 0, 1) := by decide +kernel
theorem dX9_sellTicket_5 : decode cX9_sellTicket 5 = .ok (.aload_n 0, 1) := by decide +kernel
theorem dX9_sellTicket_6 : decode cX9_sellTicket 6 = .ok (.iload_n 1, 1) := by decide +kernel
theorem dX9_sellTicket_7 : decode cX9_sellTicket 7 = .ok (.iload_n 2, 1) := by decide +kernel
theorem dX9_sellTicket_8 : decode cX9_sellTicket 8 = .ok (.iload_n 3, 1) := by decide +kernel
theorem dX9_sellTicket_9 : decode cX9_sellTicket 9 = .ok (.invokevirtual 136, 3) := by decide +kernel
theorem dX9_sellTicket_12 : decode cX9_sellTicket 12 = .ok (.invokevirtual 72, 3) := by decide +kernel
theorem dX9_sellTicket_15 : decode cX9_sellTicket 15 = .ok (.ireturn, 1) := by decide +kernel
theorem dX9_isFree_0 : decode cX9_isFree 0 = .ok (.aload_n 0, 1) := by decide +kernel
theorem dX9_isFree_1 : decode cX9_isFree 1 = .ok (.iload_n 1, 1) := by decide +kernel
theorem dX9_isFree_2 : decode cX9_isFree 2 = .ok (.iconst 4, 1) := by decide +kernel
theorem dX9_isFree_3 : decode cX9_isFree 3 = .ok (.invokevirtual 117, 3) := by decide +kernel
theorem dX9_isFree_6 : decode cX9_isFree 6 = .ok (.istore_n 3, 1) := by decide +kernel
theorem dX9_isFree_7 : decode cX9_isFree 7 = .ok (.aload_n 0, 1) := by decide +kernel
theorem dX9_isFree_8 : decode cX9_isFree 8 = .ok (.iload_n 1, 1) := by decide +kernel
theorem dX9_isFree_9 : decode cX9_isFree 9 = .ok (.iconst 1, 1) := by decide +kernel
theorem dX9_isFree_10 : decode cX9_isFree 10 = .ok (.invokevirtual 117, 3) := by decide +kernel
theorem dX9_isFree_13 : decode cX9_isFree 13 = .ok (.ifCond .ge 33, 3) := by decide +kernel
theorem dX9_isFree_16 : decode cX9_isFree 16 = .ok (.iload_n 3, 1) := by decide +kernel
theorem dX9_isFree_17 : decode cX9_isFree 17 = .ok (.ifCond .lt 29, 3) := by decide +kernel
theorem dX9_isFree_20 : decode cX9_isFree 20 = .ok (.iload_n 3, 1) := by decide +kernel
theorem dX9_isFree_21 : decode cX9_isFree 21 = .ok (.iload_n 2, 1) := by decide +kernel
theorem dX9_isFree_22 : decode cX9_isFree 22 = .ok (.if_icmp .eq 24, 3) := by decide +kernel
theorem dX9_isFree_25 : decode cX9_isFree 25 = .ok (.aload_n 0, 1) := by decide +kernel
theorem dX9_isFree_26 : decode cX9_isFree 26 = .ok (.getfield 9, 3) := by decide +kernel
theorem dX9_isFree_29 : decode cX9_isFree 29 = .ok (.iconst 5, 1) := by decide +kernel
theorem dX9_isFree_30 : decode cX9_isFree 30 = .ok (.iaload, 1) := by decide +kernel
theorem dX9_isFree_31 : decode cX9_isFree 31 = .ok (.aload_n 0, 1) := by decide +kernel
theorem dX9_isFree_32 : decode cX9_isFree 32 = .ok (.iload_n 1, 1) := by decide +kernel
theorem dX9_isFree_33 : decode cX9_isFree 33 = .ok (.iconst 5, 1) := by decide +kernel
theorem dX9_isFree_34 : decode cX9_isFree 34 = .ok (.invokevirtual 117, 3) := by decide +kernel
theorem dX9_isFree_37 : decode cX9_isFree 37 = .ok (.isub, 1) := by decide +kernel
theorem dX9_isFree_38 : decode cX9_isFree 38 = .ok (.iconst 1, 1) := by decide +kernel
theorem dX9_isFree_39 : decode cX9_isFree 39 = .ok (.if_icmp .gt 7, 3) := by decide +kernel
theorem dX9_isFree_42 : decode cX9_isFree 42 = .ok (.iconst 1, 1) := by decide +kernel
theorem dX9_isFree_43 : decode cX9_isFree 43 = .ok (.goto 4, 3) := by decide +kernel
theorem dX9_isFree_46 : decode cX9_isFree 46 = .ok (.iconst 0, 1) := by decide +kernel
theorem dX9_isFree_47 : decode cX9_isFree 47 = .ok (.ireturn, 1) := by decide +kernel
theorem dX9_hinders_0 : decode cX9_hinders 0 = .ok (.aload_n 0, 1) := by decide +kernel
theorem dX9_hinders_1 : decode cX9_hinders 1 = .ok (.iload_n 1, 1) := by decide +kernel
theorem dX9_hinders_2 : decode cX9_hinders 2 = .ok (.iconst 1, 1) := by decide +kernel
theorem dX9_hinders_3 : decode cX9_hinders 3 = .ok (.invokevirtual 117, 3) := by decide +kernel
theorem dX9_hinders_6 : decode cX9_hinders 6 = .ok (.ifCond .lt 5, 3) := by decide +kernel
theorem dX9_hinders_9 : decode cX9_hinders 9 = .ok (.iconst 2, 1) := by decide +kernel
theorem dX9_hinders_10 : decode cX9_hinders 10 = .ok (.ireturn, 1) := by decide +kernel
theorem dX9_hinders_11 : decode cX9_hinders 11 = .ok (.aload_n 0, 1) := by decide +kernel
theorem dX9_hinders_12 : decode cX9_hinders 12 = .ok (.iload_n 1, 1) := by decide +kernel
theorem dX9_hinders_13 : decode cX9_hinders 13 = .ok (.iconst 0, 1) := by decide +kernel
theorem dX9_hinders_14 : decode cX9_hinders 14 = .ok (.invokevirtual 117, 3) := by decide +kernel
theorem dX9_hinders_17 : decode cX9_hinders 17 = .ok (.istore_n 3, 1) := by decide +kernel
theorem dX9_hinders_18 : decode cX9_hinders 18 = .ok (.aload_n 0, 1) := by decide +kernel
theorem dX9_hinders_19 : decode cX9_hinders 19 = .ok (.iload_n 2, 1) := by decide +kernel
theorem dX9_hinders_20 : decode cX9_hinders 20 = .ok (.invokevirtual 114, 3) := by decide +kernel
theorem dX9_hinders_23 : decode cX9_hinders 23 = .ok (.iload_n 3, 1) := by decide +kernel
theorem dX9_hinders_24 : decode cX9_hinders 24 = .ok (.if_icmp .eq 5, 3) := by decide +kernel
theorem dX9_hinders_27 : decode cX9_hinders 27 = .ok (.iconst 3, 1) := by decide +kernel
theorem dX9_hinders_28 : decode cX9_hinders 28 = .ok (.ireturn, 1) := by decide +kernel
theorem dX9_hinders_29 : decode cX9_hinders 29 = .ok (.aload_n 0, 1) := by decide +kernel
theorem dX9_hinders_30 : decode cX9_hinders 30 = .ok (.iload_n 1, 1) := by decide +kernel
theorem dX9_hinders_31 : decode cX9_hinders 31 = .ok (.iconst 2, 1) := by decide +kernel
theorem dX9_hinders_32 : decode cX9_hinders 32 = .ok (.invokevirtual 117, 3) := by decide +kernel
theorem dX9_hinders_35 : decode cX9_hinders 35 = .ok (.aload_n 0, 1) := by decide +kernel
theorem dX9_hinders_36 : decode cX9_hinders 36 = .ok (.getfield 9, 3) := by decide +kernel
theorem dX9_hinders_39 : decode cX9_hinders 39 = .ok (.bipush 6, 2) := by decide +kernel
theorem dX9_hinders_41 : decode cX9_hinders 41 = .ok (.iload_n 3, 1) := by decide +kernel
theorem dX9_hinders_42 : decode cX9_hinders 42 = .ok (.iadd, 1) := by decide +kernel
theorem dX9_hinders_43 : decode cX9_hinders 43 = .ok (.iaload, 1) := by decide +kernel
theorem dX9_hinders_44 : decode cX9_hinders 44 = .ok (.ishr, 1) := by decide +kernel
theorem dX9_hinders_45 : decode cX9_hinders 45 = .ok (.iconst 1, 1) := by decide +kernel
theorem dX9_hinders_46 : decode cX9_hinders 46 = .ok (.iand, 1) := by decide +kernel
theorem dX9_hinders_47 : decode cX9_hinders 47 = .ok (.iconst 1, 1) := by decide +kernel
theorem dX9_hinders_48 : decode cX9_hinders 48 = .ok (.if_icmp .ne 16, 3) := by decide +kernel
theorem dX9_hinders_51 : decode cX9_hinders 51 = .ok (.aload_n 0, 1) := by decide +kernel
theorem dX9_hinders_52 : decode cX9_hinders 52 = .ok (.iload_n 1, 1) := by decide +kernel
theorem dX9_hinders_53 : decode cX9_hinders 53 = .ok (.iconst 3, 1) := by decide +kernel
theorem dX9_hinders_54 : decode cX9_hinders 54 = .ok (.invokevirtual 117, 3) := by decide +kernel
theorem dX9_hinders_57 : decode cX9_hinders 57 = .ok (.ifCond .le 7, 3) := by decide +kernel
theorem dX9_hinders_60 : decode cX9_hinders 60 = .ok (.iconst 1, 1) := by decide +kernel
theorem dX9_hinders_61 : decode cX9_hinders 61 = .ok (.goto 4, 3) := by decide +kernel
theorem dX9_hinders_64 : decode cX9_hinders 64 = .ok (.iconst 0, 1) := by decide +kernel
theorem dX9_hinders_65 : decode cX9_hinders 65 = .ok (.istore 4, 2) := by decide +kernel
theorem dX9_hinders_67 : decode cX9_hinders 67 = .ok (.aload_n 0, 1) := by decide +kernel
theorem dX9_hinders_68 : decode cX9_hinders 68 = .ok (.iload_n 1, 1) := by decide +kernel
theorem dX9_hinders_69 : decode cX9_hinders 69 = .ok (.aload_n 0, 1) := by decide +kernel
theorem dX9_hinders_70 : decode cX9_hinders 70 = .ok (.iload_n 2, 1) := by decide +kernel
theorem dX9_hinders_71 : decode cX9_hinders 71 = .ok (.iconst 0, 1) := by decide +kernel
theorem dX9_hinders_72 : decode cX9_hinders 72 = .ok (.invokevirtual 111, 3) := by decide +kernel
theorem dX9_hinders_75 : decode cX9_hinders 75 = .ok (.invokevirtual 140, 3) := by decide +kernel
theorem dX9_hinders_78 : decode cX9_hinders 78 = .ok (.ifCond .ne 8, 3) := by decide +kernel
theorem dX9_hinders_81 : decode cX9_hinders 81 = .ok (.iload 4, 2) := by decide +kernel
theorem dX9_hinders_83 : decode cX9_hinders 83 = .ok (.ifCond .eq 7, 3) := by decide +kernel
theorem dX9_hinders_86 : decode cX9_hinders 86 = .ok (.iconst 0, 1) := by decide +kernel
theorem dX9_hinders_87 : decode cX9_hinders 87 = .ok (.goto 4, 3) := by decide +kernel
theorem dX9_hinders_90 : decode cX9_hinders 90 = .ok (.iconst 4, 1) := by decide +kernel
theorem dX9_hinders_91 : decode cX9_hinders 91 = .ok (.ireturn, 1) := by decide +kernel
theorem dX9_doBoard_0 : decode cX9_doBoard 0 = .ok (.aload_n 0, 1) := by decide +kernel
theorem dX9_doBoard_1 : decode cX9_doBoard 1 = .ok (.aload_n 0, 1) := by decide +kernel
theorem dX9_doBoard_2 : decode cX9_doBoard 2 = .ok (.iload_n 1, 1) := by decide +kernel
theorem dX9_doBoard_3 : decode cX9_doBoard 3 = .ok (.invokevirtual 133, 3) := by decide +kernel
theorem dX9_doBoard_6 : decode cX9_doBoard 6 = .ok (.ifCond .eq 11, 3) := by decide +kernel
theorem dX9_doBoard_9 : decode cX9_doBoard 9 = .ok (.aload_n 0, 1) := by decide +kernel
theorem dX9_doBoard_10 : decode cX9_doBoard 10 = .ok (.iload_n 2, 1) := by decide +kernel
theorem dX9_doBoard_11 : decode cX9_doBoard 11 = .ok (.invokevirtual 108, 3) := by decide +kernel
theorem dX9_doBoard_14 : decode cX9_doBoard 14 = .ok (.ifCond .ne 7, 3) := by decide +kernel
theorem dX9_doBoard_17 : decode cX9_doBoard 17 = .ok (.iconst 1, 1) := by decide +kernel
theorem dX9_doBoard_18 : decode cX9_doBoard 18 = .ok (.goto 9, 3) := by decide +kernel
theorem dX9_doBoard_21 : decode cX9_doBoard 21 = .ok (.aload_n 0, 1) := by decide +kernel
theorem dX9_doBoard_22 : decode cX9_doBoard 22 = .ok (.iload_n 1, 1) := by decide +kernel
theorem dX9_doBoard_23 : decode cX9_doBoard 23 = .ok (.iload_n 2, 1) := by decide +kernel
theorem dX9_doBoard_24 : decode cX9_doBoard 24 = .ok (.invokevirtual 144, 3) := by decide +kernel
theorem dX9_doBoard_27 : decode cX9_doBoard 27 = .ok (.putfield 39, 3) := by decide +kernel
theorem dX9_doBoard_30 : decode cX9_doBoard 30 = .ok (.aload_n 0, 1) := by decide +kernel
theorem dX9_doBoard_31 : decode cX9_doBoard 31 = .ok (.getfield 39, 3) := by decide +kernel
theorem dX9_doBoard_34 : decode cX9_doBoard 34 = .ok (.ifCond .le 5, 3) := by decide +kernel
theorem dX9_doBoard_37 : decode cX9_doBoard 37 = .ok (.iconst 0, 1) := by decide +kernel
theorem dX9_doBoard_38 : decode cX9_doBoard 38 = .ok (.ireturn, 1) := by decide +kernel
theorem dX9_doBoard_39 : decode cX9_doBoard 39 = .ok (.aload_n 0, 1) := by decide +kernel
theorem dX9_doBoard_40 : decode cX9_doBoard 40 = .ok (.iload_n 1, 1) := by decide +kernel
theorem dX9_doBoard_41 : decode cX9_doBoard 41 = .ok (.aload_n 0, 1) := by decide +kernel
theorem dX9_doBoard_42 : decode cX9_doBoard 42 = .ok (.iload_n 2, 1) := by decide +kernel
theorem dX9_doBoard_43 : decode cX9_doBoard 43 = .ok (.iconst 0, 1) := by decide +kernel
theorem dX9_doBoard_44 : decode cX9_doBoard 44 = .ok (.invokevirtual 111, 3) := by decide +kernel
theorem dX9_doBoard_47 : decode cX9_doBoard 47 = .ok (.invokevirtual 140, 3) := by decide +kernel
theorem dX9_doBoard_50 : decode cX9_doBoard 50 = .ok (.istore_n 3, 1) := by decide +kernel
theorem dX9_doBoard_51 : decode cX9_doBoard 51 = .ok (.aload_n 0, 1) := by decide +kernel
theorem dX9_doBoard_52 : decode cX9_doBoard 52 = .ok (.iload_n 1, 1) := by decide +kernel
theorem dX9_doBoard_53 : decode cX9_doBoard 53 = .ok (.iconst 3, 1) := by decide +kernel
theorem dX9_doBoard_54 : decode cX9_doBoard 54 = .ok (.aload_n 0, 1) := by decide +kernel
theorem dX9_doBoard_55 : decode cX9_doBoard 55 = .ok (.iload_n 1, 1) := by decide +kernel
theorem dX9_doBoard_56 : decode cX9_doBoard 56 = .ok (.iconst 3, 1) := by decide +kernel
theorem dX9_doBoard_57 : decode cX9_doBoard 57 = .ok (.invokevirtual 117, 3) := by decide +kernel
theorem dX9_doBoard_60 : decode cX9_doBoard 60 = .ok (.iload_n 3, 1) := by decide +kernel
theorem dX9_doBoard_61 : decode cX9_doBoard 61 = .ok (.ifCond .eq 7, 3) := by decide +kernel
theorem dX9_doBoard_64 : decode cX9_doBoard 64 = .ok (.iconst 0, 1) := by decide +kernel
theorem dX9_doBoard_65 : decode cX9_doBoard 65 = .ok (.goto 4, 3) := by decide +kernel
theorem dX9_doBoard_68 : decode cX9_doBoard 68 = .ok (.iconst 1, 1) := by decide +kernel
theorem dX9_doBoard_69 : decode cX9_doBoard 69 = .ok (.isub, 1) := by decide +kernel
theorem dX9_doBoard_70 : decode cX9_doBoard 70 = .ok (.invokevirtual 126, 3) := by decide +kernel
theorem dX9_doBoard_73 : decode cX9_doBoard 73 = .ok (.aload_n 0, 1) := by decide +kernel
theorem dX9_doBoard_74 : decode cX9_doBoard 74 = .ok (.iload_n 1, 1) := by decide +kernel
theorem dX9_doBoard_75 : decode cX9_doBoard 75 = .ok (.iconst 0, 1) := by decide +kernel
theorem dX9_doBoard_76 : decode cX9_doBoard 76 = .ok (.iconst (-1), 1) := by decide +kernel
theorem dX9_doBoard_77 : decode cX9_doBoard 77 = .ok (.invokevirtual 126, 3) := by decide +kernel
theorem dX9_doBoard_80 : decode cX9_doBoard 80 = .ok (.aload_n 0, 1) := by decide +kernel
theorem dX9_doBoard_81 : decode cX9_doBoard 81 = .ok (.iload_n 1, 1) := by decide +kernel
theorem dX9_doBoard_82 : decode cX9_doBoard 82 = .ok (.iconst 1, 1) := by decide +kernel
theorem dX9_doBoard_83 : decode cX9_doBoard 83 = .ok (.iload_n 2, 1) := by decide +kernel
theorem dX9_doBoard_84 : decode cX9_doBoard 84 = .ok (.invokevirtual 126, 3) := by decide +kernel
theorem dX9_doBoard_87 : decode cX9_doBoard 87 = .ok (.iload_n 3, 1) := by decide +kernel
theorem dX9_doBoard_88 : decode cX9_doBoard 88 = .ok (.ifCond .ne 7, 3) := by decide +kernel
theorem dX9_doBoard_91 : decode cX9_doBoard 91 = .ok (.iconst 1, 1) := by decide +kernel
theorem dX9_doBoard_92 : decode cX9_doBoard 92 = .ok (.goto 4, 3) := by decide +kernel
theorem dX9_doBoard_95 : decode cX9_doBoard 95 = .ok (.iconst 0, 1) := by decide +kernel
theorem dX9_doBoard_96 : decode cX9_doBoard 96 = .ok (.ireturn, 1) := by decide +kernel
theorem dX9_board_0 : decode cX9_board 0 = .ok (.aload_n 0, 1) := by decide +kernel
theorem dX9_board_1 : decode cX9_board 1 = .ok (.invokevirtual 66, 3) := by decide +kernel
theorem dX9_board_4 : decode cX9_board 4 = .ok (.aload_n 0, 1) := by decide +kernel
theorem dX9_board_5 : decode cX9_board 5 = .ok (.iload_n 1, 1) := by decide +kernel
theorem dX9_board_6 : decode cX9_board 6 = .ok (.iload_n 2, 1) := by decide +kernel
theorem dX9_board_7 : decode cX9_board 7 = .ok (.invokevirtual 147, 3) := by decide +kernel
theorem dX9_board_10 : decode cX9_board 10 = .ok (.istore_n 3, 1) := by decide +kernel
theorem dX9_board_11 : decode cX9_board 11 = .ok (.aload_n 0, 1) := by decide +kernel
theorem dX9_board_12 : decode cX9_board 12 = .ok (.iconst 0, 1) := by decide +kernel
theorem dX9_board_13 : decode cX9_board 13 = .ok (.invokevirtual 72, 3) := by decide +kernel
theorem dX9_board_16 : decode cX9_board 16 = .ok (.istore 4, 2) := by decide +kernel
theorem dX9_board_18 : decode cX9_board 18 = .ok (.iload_n 3, 1) := by decide +kernel
theorem dX9_board_19 : decode cX9_board 19 = .ok (.ireturn, 1) := by decide +kernel
theorem dX9_doAlight_0 : decode cX9_doAlight 0 = .ok (.aload_n 0, 1) := by decide +kernel
theorem dX9_doAlight_1 : decode cX9_doAlight 1 = .ok (.iload_n 1, 1) := by decide +kernel
theorem dX9_doAlight_2 : decode cX9_doAlight 2 = .ok (.invokevirtual 133, 3) := by decide +kernel
theorem dX9_doAlight_5 : decode cX9_doAlight 5 = .ok (.ifCond .ne 9, 3) := by decide +kernel
theorem dX9_doAlight_8 : decode cX9_doAlight 8 = .ok (.aload_n 0, 1) := by decide +kernel
theorem dX9_doAlight_9 : decode cX9_doAlight 9 = .ok (.iconst 1, 1) := by decide +kernel
theorem dX9_doAlight_10 : decode cX9_doAlight 10 = .ok (.invokevirtual 63, 3) := by decide +kernel
theorem dX9_doAlight_13 : decode cX9_doAlight 13 = .ok (.ireturn, 1) := by decide +kernel
theorem dX9_doAlight_14 : decode cX9_doAlight 14 = .ok (.aload_n 0, 1) := by decide +kernel
theorem dX9_doAlight_15 : decode cX9_doAlight 15 = .ok (.iload_n 1, 1) := by decide +kernel
theorem dX9_doAlight_16 : decode cX9_doAlight 16 = .ok (.iconst 1, 1) := by decide +kernel
theorem dX9_doAlight_17 : decode cX9_doAlight 17 = .ok (.invokevirtual 117, 3) := by decide +kernel
theorem dX9_doAlight_20 : decode cX9_doAlight 20 = .ok (.istore_n 2, 1) := by decide +kernel
theorem dX9_doAlight_21 : decode cX9_doAlight 21 = .ok (.iload_n 2, 1) := by decide +kernel
theorem dX9_doAlight_22 : decode cX9_doAlight 22 = .ok (.ifCond .ge 9, 3) := by decide +kernel
theorem dX9_doAlight_25 : decode cX9_doAlight 25 = .ok (.aload_n 0, 1) := by decide +kernel
theorem dX9_doAlight_26 : decode cX9_doAlight 26 = .ok (.iconst 2, 1) := by decide +kernel
theorem dX9_doAlight_27 : decode cX9_doAlight 27 = .ok (.invokevirtual 63, 3) := by decide +kernel
theorem dX9_doAlight_30 : decode cX9_doAlight 30 = .ok (.ireturn, 1) := by decide +kernel
theorem dX9_doAlight_31 : decode cX9_doAlight 31 = .ok (.aload_n 0, 1) := by decide +kernel
theorem dX9_doAlight_32 : decode cX9_doAlight 32 = .ok (.iload_n 2, 1) := by decide +kernel
theorem dX9_doAlight_33 : decode cX9_doAlight 33 = .ok (.invokevirtual 114, 3) := by decide +kernel
theorem dX9_doAlight_36 : decode cX9_doAlight 36 = .ok (.istore_n 3, 1) := by decide +kernel
theorem dX9_doAlight_37 : decode cX9_doAlight 37 = .ok (.aload_n 0, 1) := by decide +kernel
theorem dX9_doAlight_38 : decode cX9_doAlight 38 = .ok (.iload_n 1, 1) := by decide +kernel
theorem dX9_doAlight_39 : decode cX9_doAlight 39 = .ok (.iconst 0, 1) := by decide +kernel
theorem dX9_doAlight_40 : decode cX9_doAlight 40 = .ok (.iload_n 3, 1) := by decide +kernel
theorem dX9_doAlight_41 : decode cX9_doAlight 41 = .ok (.invokevirtual 126, 3) := by decide +kernel
theorem dX9_doAlight_44 : decode cX9_doAlight 44 = .ok (.aload_n 0, 1) := by decide +kernel
theorem dX9_doAlight_45 : decode cX9_doAlight 45 = .ok (.iload_n 1, 1) := by decide +kernel
theorem dX9_doAlight_46 : decode cX9_doAlight 46 = .ok (.iconst 1, 1) := by decide +kernel
theorem dX9_doAlight_47 : decode cX9_doAlight 47 = .ok (.iconst (-1), 1) := by decide +kernel
theorem dX9_doAlight_48 : decode cX9_doAlight 48 = .ok (.invokevirtual 126, 3) := by decide +kernel
theorem dX9_doAlight_51 : decode cX9_doAlight 51 = .ok (.aload_n 0, 1) := by decide +kernel
theorem dX9_doAlight_52 : decode cX9_doAlight 52 = .ok (.iload_n 1, 1) := by decide +kernel
theorem dX9_doAlight_53 : decode cX9_doAlight 53 = .ok (.iconst 4, 1) := by decide +kernel
theorem dX9_doAlight_54 : decode cX9_doAlight 54 = .ok (.aload_n 0, 1) := by decide +kernel
theorem dX9_doAlight_55 : decode cX9_doAlight 55 = .ok (.iload_n 2, 1) := by decide +kernel
theorem dX9_doAlight_56 : decode cX9_doAlight 56 = .ok (.iconst 0, 1) := by decide +kernel
theorem dX9_doAlight_57 : decode cX9_doAlight 57 = .ok (.invokevirtual 111, 3) := by decide +kernel
theorem dX9_doAlight_60 : decode cX9_doAlight 60 = .ok (.invokevirtual 126, 3) := by decide +kernel
theorem dX9_doAlight_63 : decode cX9_doAlight 63 = .ok (.aload_n 0, 1) := by decide +kernel
theorem dX9_doAlight_64 : decode cX9_doAlight 64 = .ok (.iload_n 1, 1) := by decide +kernel
theorem dX9_doAlight_65 : decode cX9_doAlight 65 = .ok (.iconst 5, 1) := by decide +kernel
theorem dX9_doAlight_66 : decode cX9_doAlight 66 = .ok (.aload_n 0, 1) := by decide +kernel
theorem dX9_doAlight_67 : decode cX9_doAlight 67 = .ok (.getfield 9, 3) := by decide +kernel
theorem dX9_doAlight_70 : decode cX9_doAlight 70 = .ok (.iconst 5, 1) := by decide +kernel
theorem dX9_doAlight_71 : decode cX9_doAlight 71 = .ok (.iaload, 1) := by decide +kernel
theorem dX9_doAlight_72 : decode cX9_doAlight 72 = .ok (.invokevirtual 126, 3) := by decide +kernel
theorem dX9_doAlight_75 : decode cX9_doAlight 75 = .ok (.iconst 0, 1) := by decide +kernel
theorem dX9_doAlight_76 : decode cX9_doAlight 76 = .ok (.istore 4, 2) := by decide +kernel
theorem dX9_doAlight_78 : decode cX9_doAlight 78 = .ok (.iload 4, 2) := by decide +kernel
theorem dX9_doAlight_80 : decode cX9_doAlight 80 = .ok (.aload_n 0, 1) := by decide +kernel
theorem dX9_doAlight_81 : decode cX9_doAlight 81 = .ok (.getfield 9, 3) := by decide +kernel
theorem dX9_doAlight_84 : decode cX9_doAlight 84 = .ok (.iconst 4, 1) := by decide +kernel
theorem dX9_doAlight_85 : decode cX9_doAlight 85 = .ok (.iaload, 1) := by decide +kernel
theorem dX9_doAlight_86 : decode cX9_doAlight 86 = .ok (.if_icmp .ge 55, 3) := by decide +kernel
theorem dX9_doAlight_89 : decode cX9_doAlight 89 = .ok (.bipush 117, 2) := by decide +kernel
theorem dX9_doAlight_91 : decode cX9_doAlight 91 = .ok (.iconst 2, 1) := by decide +kernel
theorem dX9_doAlight_92 : decode cX9_doAlight 92 = .ok (.iload 4, 2) := by decide +kernel
theorem dX9_doAlight_94 : decode cX9_doAlight 94 = .ok (.imul, 1) := by decide +kernel
theorem dX9_doAlight_95 : decode cX9_doAlight 95 = .ok (.iadd, 1) := by decide +kernel
theorem dX9_doAlight_96 : decode cX9_doAlight 96 = .ok (.istore 5, 2) := by decide +kernel
theorem dX9_doAlight_98 : decode cX9_doAlight 98 = .ok (.aload_n 0, 1) := by decide +kernel
theorem dX9_doAlight_99 : decode cX9_doAlight 99 = .ok (.getfield 9, 3) := by decide +kernel
theorem dX9_doAlight_102 : decode cX9_doAlight 102 = .ok (.iload 5, 2) := by decide +kernel
theorem dX9_doAlight_104 : decode cX9_doAlight 104 = .ok (.aload_n 0, 1) := by decide +kernel
theorem dX9_doAlight_105 : decode cX9_doAlight 105 = .ok (.getfield 9, 3) := by decide +kernel
theorem dX9_doAlight_108 : decode cX9_doAlight 108 = .ok (.iload 5, 2) := by decide +kernel
theorem dX9_doAlight_110 : decode cX9_doAlight 110 = .ok (.iaload, 1) := by decide +kernel
theorem dX9_doAlight_111 : decode cX9_doAlight 111 = .ok (.iload_n 1, 1) := by decide +kernel
theorem dX9_doAlight_112 : decode cX9_doAlight 112 = .ok (.if_icmp .ne 15, 3) := by decide +kernel
theorem dX9_doAlight_115 : decode cX9_doAlight 115 = .ok (.aload_n 0, 1) := by decide +kernel
theorem dX9_doAlight_116 : decode cX9_doAlight 116 = .ok (.iload_n 3, 1) := by decide +kernel
theorem dX9_doAlight_117 : decode cX9_doAlight 117 = .ok (.invokevirtual 95, 3) := by decide +kernel
theorem dX9_doAlight_120 : decode cX9_doAlight 120 = .ok (.ifCond .eq 7, 3) := by decide +kernel
theorem dX9_doAlight_123 : decode cX9_doAlight 123 = .ok (.iconst (-1), 1) := by decide +kernel
theorem dX9_doAlight_124 : decode cX9_doAlight 124 = .ok (.goto 10, 3) := by decide +kernel
theorem dX9_doAlight_127 : decode cX9_doAlight 127 = .ok (.aload_n 0, 1) := by decide +kernel
theorem dX9_doAlight_128 : decode cX9_doAlight 128 = .ok (.getfield 9, 3) := by decide +kernel
theorem dX9_doAlight_131 : decode cX9_doAlight 131 = .ok (.iload 5, 2) := by decide +kernel
theorem dX9_doAlight_133 : decode cX9_doAlight 133 = .ok (.iaload, 1) := by decide +kernel
theorem dX9_doAlight_134 : decode cX9_doAlight 134 = .ok (.iastore, 1) := by decide +kernel
theorem dX9_doAlight_135 : decode cX9_doAlight 135 = .ok (.iinc 4 1, 3) := by decide +kernel
theorem dX9_doAlight_138 : decode cX9_doAlight 138 = .ok (.goto (-60), 3) := by decide +kernel
theorem dX9_doAlight_141 : decode cX9_doAlight 141 = .ok (.iload_n 3, 1) := by decide +kernel
theorem dX9_doAlight_142 : decode cX9_doAlight 142 = .ok (.ireturn, 1) := by decide +kernel
theorem dX9_alight_0 : decode cX9_alight 0 = .ok (.aload_n 0, 1) := by decide +kernel
theorem dX9_alight_1 : decode cX9_alight 1 = .ok (.invokevirtual 66, 3) := by decide +kernel
theorem dX9_alight_4 : decode cX9_alight 4 = .ok (.aload_n 0, 1) := by decide +kernel
theorem dX9_alight_5 : decode cX9_alight 5 = .ok (.aload_n 0, 1) := by decide +kernel
theorem dX9_alight_6 : decode cX9_alight 6 = .ok (.iload_n 1, 1) := by decide +kernel
theorem dX9_alight_7 : decode cX9_alight 7 = .ok (.invokevirtual 150, 3) := by decide +kernel
theorem dX9_alight_10 : decode cX9_alight 10 = .ok (.invokevirtual 72, 3) := by decide +kernel
theorem dX9_alight_13 : decode cX9_alight 13 = .ok (.ireturn, 1) := by decide +kernel
theorem dX9_passengerCount_0 : decode cX9_passengerCount 0 = .ok (.aload_n 0, 1) := by decide +kernel
theorem dX9_passengerCount_1 : decode cX9_passengerCount 1 = .ok (.iconst 0, 1) := by decide +kernel
theorem dX9_passengerCount_2 : decode cX9_passengerCount 2 = .ok (.putfield 39, 3) := by decide +kernel
theorem dX9_passengerCount_5 : decode cX9_passengerCount 5 = .ok (.aload_n 0, 1) := by decide +kernel
theorem dX9_passengerCount_6 : decode cX9_passengerCount 6 = .ok (.getfield 9, 3) := by decide +kernel
theorem dX9_passengerCount_9 : decode cX9_passengerCount 9 = .ok (.iconst 3, 1) := by decide +kernel
theorem dX9_passengerCount_10 : decode cX9_passengerCount 10 = .ok (.iaload, 1) := by decide +kernel
theorem dX9_passengerCount_11 : decode cX9_passengerCount 11 = .ok (.ireturn, 1) := by decide +kernel
theorem dX9_stopOfPassenger_0 : decode cX9_stopOfPassenger 0 = .ok (.aload_n 0, 1) := by decide +kernel
theorem dX9_stopOfPassenger_1 : decode cX9_stopOfPassenger 1 = .ok (.aload_n 0, 1) := by decide +kernel
theorem dX9_stopOfPassenger_2 : decode cX9_stopOfPassenger 2 = .ok (.iload_n 1, 1) := by decide +kernel
theorem dX9_stopOfPassenger_3 : decode cX9_stopOfPassenger 3 = .ok (.invokevirtual 133, 3) := by decide +kernel
theorem dX9_stopOfPassenger_6 : decode cX9_stopOfPassenger 6 = .ok (.invokevirtual 91, 3) := by decide +kernel
theorem dX9_stopOfPassenger_9 : decode cX9_stopOfPassenger 9 = .ok (.ifCond .eq 12, 3) := by decide +kernel
theorem dX9_stopOfPassenger_12 : decode cX9_stopOfPassenger 12 = .ok (.aload_n 0, 1) := by decide +kernel
theorem dX9_stopOfPassenger_13 : decode cX9_stopOfPassenger 13 = .ok (.iload_n 1, 1) := by decide +kernel
theorem dX9_stopOfPassenger_14 : decode cX9_stopOfPassenger 14 = .ok (.iconst 0, 1) := by decide +kernel
theorem dX9_stopOfPassenger_15 : decode cX9_stopOfPassenger 15 = .ok (.invokevirtual 117, 3) := by decide +kernel
theorem dX9_stopOfPassenger_18 : decode cX9_stopOfPassenger 18 = .ok (.goto 4, 3) := by decide +kernel
theorem dX9_stopOfPassenger_21 : decode cX9_stopOfPassenger 21 = .ok (.iconst 0, 1) := by decide +kernel
theorem dX9_stopOfPassenger_22 : decode cX9_stopOfPassenger 22 = .ok (.ireturn, 1) := by decide +kernel
theorem dX9_tramOfPassenger_0 : decode cX9_tramOfPassenger 0 = .ok (.aload_n 0, 1) := by decide +kernel
theorem dX9_tramOfPassenger_1 : decode cX9_tramOfPassenger 1 = .ok (.aload_n 0, 1) := by decide +kernel
theorem dX9_tramOfPassenger_2 : decode cX9_tramOfPassenger 2 = .ok (.iload_n 1, 1) := by decide +kernel
theorem dX9_tramOfPassenger_3 : decode cX9_tramOfPassenger 3 = .ok (.invokevirtual 133, 3) := by decide +kernel
theorem dX9_tramOfPassenger_6 : decode cX9_tramOfPassenger 6 = .ok (.invokevirtual 91, 3) := by decide +kernel
theorem dX9_tramOfPassenger_9 : decode cX9_tramOfPassenger 9 = .ok (.ifCond .eq 12, 3) := by decide +kernel
theorem dX9_tramOfPassenger_12 : decode cX9_tramOfPassenger 12 = .ok (.aload_n 0, 1) := by decide +kernel
theorem dX9_tramOfPassenger_13 : decode cX9_tramOfPassenger 13 = .ok (.iload_n 1, 1) := by decide +kernel
theorem dX9_tramOfPassenger_14 : decode cX9_tramOfPassenger 14 = .ok (.iconst 1, 1) := by decide +kernel
theorem dX9_tramOfPassenger_15 : decode cX9_tramOfPassenger 15 = .ok (.invokevirtual 117, 3) := by decide +kernel
theorem dX9_tramOfPassenger_18 : decode cX9_tramOfPassenger 18 = .ok (.goto 4, 3) := by decide +kernel
theorem dX9_tramOfPassenger_21 : decode cX9_tramOfPassenger 21 = .ok (.iconst 0, 1) := by decide +kernel
theorem dX9_tramOfPassenger_22 : decode cX9_tramOfPassenger 22 = .ok (.ireturn, 1) := by decide +kernel
theorem dX9_ridesOf_0 : decode cX9_ridesOf 0 = .ok (.aload_n 0, 1) := by decide +kernel
theorem dX9_ridesOf_1 : decode cX9_ridesOf 1 = .ok (.aload_n 0, 1) := by decide +kernel
theorem dX9_ridesOf_2 : decode cX9_ridesOf 2 = .ok (.iload_n 1, 1) := by decide +kernel
theorem dX9_ridesOf_3 : decode cX9_ridesOf 3 = .ok (.invokevirtual 133, 3) := by decide +kernel
theorem dX9_ridesOf_6 : decode cX9_ridesOf 6 = .ok (.invokevirtual 91, 3) := by decide +kernel
theorem dX9_ridesOf_9 : decode cX9_ridesOf 9 = .ok (.ifCond .eq 12, 3) := by decide +kernel
theorem dX9_ridesOf_12 : decode cX9_ridesOf 12 = .ok (.aload_n 0, 1) := by decide +kernel
theorem dX9_ridesOf_13 : decode cX9_ridesOf 13 = .ok (.iload_n 1, 1) := by decide +kernel
theorem dX9_ridesOf_14 : decode cX9_ridesOf 14 = .ok (.iconst 3, 1) := by decide +kernel
theorem dX9_ridesOf_15 : decode cX9_ridesOf 15 = .ok (.invokevirtual 117, 3) := by decide +kernel
theorem dX9_ridesOf_18 : decode cX9_ridesOf 18 = .ok (.goto 4, 3) := by decide +kernel
theorem dX9_ridesOf_21 : decode cX9_ridesOf 21 = .ok (.iconst 0, 1) := by decide +kernel
theorem dX9_ridesOf_22 : decode cX9_ridesOf 22 = .ok (.ireturn, 1) := by decide +kernel
theorem dX9_isValidIn_0 : decode cX9_isValidIn 0 = .ok (.aload_n 0, 1) := by decide +kernel
theorem dX9_isValidIn_1 : decode cX9_isValidIn 1 = .ok (.aload_n 0, 1) := by decide +kernel
theorem dX9_isValidIn_2 : decode cX9_isValidIn 2 = .ok (.iload_n 1, 1) := by decide +kernel
theorem dX9_isValidIn_3 : decode cX9_isValidIn 3 = .ok (.invokevirtual 133, 3) := by decide +kernel
theorem dX9_isValidIn_6 : decode cX9_isValidIn 6 = .ok (.ifCond .ne 7, 3) := by decide +kernel
theorem dX9_isValidIn_9 : decode cX9_isValidIn 9 = .ok (.iconst 1, 1) := by decide +kernel
theorem dX9_isValidIn_10 : decode cX9_isValidIn 10 = .ok (.goto 17, 3) := by decide +kernel
theorem dX9_isValidIn_13 : decode cX9_isValidIn 13 = .ok (.iload_n 2, 1) := by decide +kernel
theorem dX9_isValidIn_14 : decode cX9_isValidIn 14 = .ok (.iconst 0, 1) := by decide +kernel
theorem dX9_isValidIn_15 : decode cX9_isValidIn 15 = .ok (.iconst 3, 1) := by decide +kernel
theorem dX9_isValidIn_16 : decode cX9_isValidIn 16 = .ok (.invokestatic 51, 3) := by decide +kernel
theorem dX9_isValidIn_19 : decode cX9_isValidIn 19 = .ok (.ifCond .ne 7, 3) := by decide +kernel
theorem dX9_isValidIn_22 : decode cX9_isValidIn 22 = .ok (.iconst 2, 1) := by decide +kernel
theorem dX9_isValidIn_23 : decode cX9_isValidIn 23 = .ok (.goto 4, 3) := by decide +kernel
theorem dX9_isValidIn_26 : decode cX9_isValidIn 26 = .ok (.iconst 0, 1) := by decide +kernel
theorem dX9_isValidIn_27 : decode cX9_isValidIn 27 = .ok (.putfield 39, 3) := by decide +kernel
theorem dX9_isValidIn_30 : decode cX9_isValidIn 30 = .ok (.aload_n 0, 1) := by decide +kernel
theorem dX9_isValidIn_31 : decode cX9_isValidIn 31 = .ok (.getfield 39, 3) := by decide +kernel
theorem dX9_isValidIn_34 : decode cX9_isValidIn 34 = .ok (.ifCond .ne 21, 3) := by decide +kernel
theorem dX9_isValidIn_37 : decode cX9_isValidIn 37 = .ok (.aload_n 0, 1) := by decide +kernel
theorem dX9_isValidIn_38 : decode cX9_isValidIn 38 = .ok (.iload_n 1, 1) := by decide +kernel
theorem dX9_isValidIn_39 : decode cX9_isValidIn 39 = .ok (.iconst 2, 1) := by decide +kernel
theorem dX9_isValidIn_40 : decode cX9_isValidIn 40 = .ok (.invokevirtual 117, 3) := by decide +kernel
theorem dX9_isValidIn_43 : decode cX9_isValidIn 43 = .ok (.iload_n 2, 1) := by decide +kernel
theorem dX9_isValidIn_44 : decode cX9_isValidIn 44 = .ok (.ishr, 1) := by decide +kernel
theorem dX9_isValidIn_45 : decode cX9_isValidIn 45 = .ok (.iconst 1, 1) := by decide +kernel
theorem dX9_isValidIn_46 : decode cX9_isValidIn 46 = .ok (.iand, 1) := by decide +kernel
theorem dX9_isValidIn_47 : decode cX9_isValidIn 47 = .ok (.iconst 1, 1) := by decide +kernel
theorem dX9_isValidIn_48 : decode cX9_isValidIn 48 = .ok (.if_icmp .ne 7, 3) := by decide +kernel
theorem dX9_isValidIn_51 : decode cX9_isValidIn 51 = .ok (.iconst 1, 1) := by decide +kernel
theorem dX9_isValidIn_52 : decode cX9_isValidIn 52 = .ok (.goto 4, 3) := by decide +kernel
theorem dX9_isValidIn_55 : decode cX9_isValidIn 55 = .ok (.iconst 0, 1) := by decide +kernel
theorem dX9_isValidIn_56 : decode cX9_isValidIn 56 = .ok (.ireturn, 1) := by decide +kernel
theorem dX9_canBoard_0 : decode cX9_canBoard 0 = .ok (.aload_n 0, 1) := by decide +kernel
theorem dX9_canBoard_1 : decode cX9_canBoard 1 = .ok (.aload_n 0, 1) := by decide +kernel
theorem dX9_canBoard_2 : decode cX9_canBoard 2 = .ok (.iload_n 1, 1) := by decide +kernel
theorem dX9_canBoard_3 : decode cX9_canBoard 3 = .ok (.invokevirtual 133, 3) := by decide +kernel
theorem dX9_canBoard_6 : decode cX9_canBoard 6 = .ok (.ifCond .eq 15, 3) := by decide +kernel
theorem dX9_canBoard_9 : decode cX9_canBoard 9 = .ok (.aload_n 0, 1) := by decide +kernel
theorem dX9_canBoard_10 : decode cX9_canBoard 10 = .ok (.iload_n 2, 1) := by decide +kernel
theorem dX9_canBoard_11 : decode cX9_canBoard 11 = .ok (.invokevirtual 108, 3) := by decide +kernel
theorem dX9_canBoard_14 : decode cX9_canBoard 14 = .ok (.ifCond .eq 7, 3) := by decide +kernel
theorem dX9_canBoard_17 : decode cX9_canBoard 17 = .ok (.iconst 1, 1) := by decide +kernel
theorem dX9_canBoard_18 : decode cX9_canBoard 18 = .ok (.goto 4, 3) := by decide +kernel
theorem dX9_canBoard_21 : decode cX9_canBoard 21 = .ok (.iconst 0, 1) := by decide +kernel
theorem dX9_canBoard_22 : decode cX9_canBoard 22 = .ok (.invokevirtual 91, 3) := by decide +kernel
theorem dX9_canBoard_25 : decode cX9_canBoard 25 = .ok (.ifCond .eq 16, 3) := by decide +kernel
theorem dX9_canBoard_28 : decode cX9_canBoard 28 = .ok (.aload_n 0, 1) := by decide +kernel
theorem dX9_canBoard_29 : decode cX9_canBoard 29 = .ok (.iload_n 1, 1) := by decide +kernel
theorem dX9_canBoard_30 : decode cX9_canBoard 30 = .ok (.iload_n 2, 1) := by decide +kernel
theorem dX9_canBoard_31 : decode cX9_canBoard 31 = .ok (.invokevirtual 144, 3) := by decide +kernel
theorem dX9_canBoard_34 : decode cX9_canBoard 34 = .ok (.ifCond .ne 7, 3) := by decide +kernel
theorem dX9_canBoard_37 : decode cX9_canBoard 37 = .ok (.iconst 1, 1) := by decide +kernel
theorem dX9_canBoard_38 : decode cX9_canBoard 38 = .ok (.goto 4, 3) := by decide +kernel
theorem dX9_canBoard_41 : decode cX9_canBoard 41 = .ok (.iconst 0, 1) := by decide +kernel
theorem dX9_canBoard_42 : decode cX9_canBoard 42 = .ok (.ireturn, 1) := by decide +kernel
theorem dX9_isTransfer_0 : decode cX9_isTransfer 0 = .ok (.aload_n 0, 1) := by decide +kernel
theorem dX9_isTransfer_1 : decode cX9_isTransfer 1 = .ok (.aload_n 0, 1) := by decide +kernel
theorem dX9_isTransfer_2 : decode cX9_isTransfer 2 = .ok (.iload_n 1, 1) := by decide +kernel
theorem dX9_isTransfer_3 : decode cX9_isTransfer 3 = .ok (.invokevirtual 133, 3) := by decide +kernel
theorem dX9_isTransfer_6 : decode cX9_isTransfer 6 = .ok (.ifCond .eq 15, 3) := by decide +kernel
theorem dX9_isTransfer_9 : decode cX9_isTransfer 9 = .ok (.aload_n 0, 1) := by decide +kernel
theorem dX9_isTransfer_10 : decode cX9_isTransfer 10 = .ok (.iload_n 2, 1) := by decide +kernel
theorem dX9_isTransfer_11 : decode cX9_isTransfer 11 = .ok (.invokevirtual 82, 3) := by decide +kernel
theorem dX9_isTransfer_14 : decode cX9_isTransfer 14 = .ok (.ifCond .eq 7, 3) := by decide +kernel
theorem dX9_isTransfer_17 : decode cX9_isTransfer 17 = .ok (.iconst 1, 1) := by decide +kernel
theorem dX9_isTransfer_18 : decode cX9_isTransfer 18 = .ok (.goto 4, 3) := by decide +kernel
theorem dX9_isTransfer_21 : decode cX9_isTransfer 21 = .ok (.iconst 0, 1) := by decide +kernel
theorem dX9_isTransfer_22 : decode cX9_isTransfer 22 = .ok (.invokevirtual 91, 3) := by decide +kernel
theorem dX9_isTransfer_25 : decode cX9_isTransfer 25 = .ok (.ifCond .eq 16, 3) := by decide +kernel
theorem dX9_isTransfer_28 : decode cX9_isTransfer 28 = .ok (.aload_n 0, 1) := by decide +kernel
theorem dX9_isTransfer_29 : decode cX9_isTransfer 29 = .ok (.iload_n 1, 1) := by decide +kernel
theorem dX9_isTransfer_30 : decode cX9_isTransfer 30 = .ok (.iload_n 2, 1) := by decide +kernel
theorem dX9_isTransfer_31 : decode cX9_isTransfer 31 = .ok (.invokevirtual 140, 3) := by decide +kernel
theorem dX9_isTransfer_34 : decode cX9_isTransfer 34 = .ok (.ifCond .eq 7, 3) := by decide +kernel
theorem dX9_isTransfer_37 : decode cX9_isTransfer 37 = .ok (.iconst 1, 1) := by decide +kernel
theorem dX9_isTransfer_38 : decode cX9_isTransfer 38 = .ok (.goto 4, 3) := by decide +kernel
theorem dX9_isTransfer_41 : decode cX9_isTransfer 41 = .ok (.iconst 0, 1) := by decide +kernel
theorem dX9_isTransfer_42 : decode cX9_isTransfer 42 = .ok (.ireturn, 1) := by decide +kernel
theorem dX9_carrier_0 : decode cX9_carrier 0 = .ok (.aload_n 0, 1) := by decide +kernel
theorem dX9_carrier_1 : decode cX9_carrier 1 = .ok (.getfield 9, 3) := by decide +kernel
theorem dX9_carrier_4 : decode cX9_carrier 4 = .ok (.bipush 117, 2) := by decide +kernel
theorem dX9_carrier_6 : decode cX9_carrier 6 = .ok (.iconst 2, 1) := by decide +kernel
theorem dX9_carrier_7 : decode cX9_carrier 7 = .ok (.iload_n 1, 1) := by decide +kernel
theorem dX9_carrier_8 : decode cX9_carrier 8 = .ok (.imul, 1) := by decide +kernel
theorem dX9_carrier_9 : decode cX9_carrier 9 = .ok (.iadd, 1) := by decide +kernel
theorem dX9_carrier_10 : decode cX9_carrier 10 = .ok (.iaload, 1) := by decide +kernel
theorem dX9_carrier_11 : decode cX9_carrier 11 = .ok (.ireturn, 1) := by decide +kernel
theorem dX9_knowers_0 : decode cX9_knowers 0 = .ok (.aload_n 0, 1) := by decide +kernel
theorem dX9_knowers_1 : decode cX9_knowers 1 = .ok (.getfield 9, 3) := by decide +kernel
theorem dX9_knowers_4 : decode cX9_knowers 4 = .ok (.bipush 117, 2) := by decide +kernel
theorem dX9_knowers_6 : decode cX9_knowers 6 = .ok (.iconst 2, 1) := by decide +kernel
theorem dX9_knowers_7 : decode cX9_knowers 7 = .ok (.iload_n 1, 1) := by decide +kernel
theorem dX9_knowers_8 : decode cX9_knowers 8 = .ok (.imul, 1) := by decide +kernel
theorem dX9_knowers_9 : decode cX9_knowers 9 = .ok (.iadd, 1) := by decide +kernel
theorem dX9_knowers_10 : decode cX9_knowers 10 = .ok (.iconst 1, 1) := by decide +kernel
theorem dX9_knowers_11 : decode cX9_knowers 11 = .ok (.iadd, 1) := by decide +kernel
theorem dX9_knowers_12 : decode cX9_knowers 12 = .ok (.iaload, 1) := by decide +kernel
theorem dX9_knowers_13 : decode cX9_knowers 13 = .ok (.ireturn, 1) := by decide +kernel
theorem dX9_doAddSecret_0 : decode cX9_doAddSecret 0 = .ok (.aload_n 0, 1) := by decide +kernel
theorem dX9_doAddSecret_1 : decode cX9_doAddSecret 1 = .ok (.getfield 9, 3) := by decide +kernel
theorem dX9_doAddSecret_4 : decode cX9_doAddSecret 4 = .ok (.iconst 4, 1) := by decide +kernel
theorem dX9_doAddSecret_5 : decode cX9_doAddSecret 5 = .ok (.iaload, 1) := by decide +kernel
theorem dX9_doAddSecret_6 : decode cX9_doAddSecret 6 = .ok (.istore_n 2, 1) := by decide +kernel
theorem dX9_doAddSecret_7 : decode cX9_doAddSecret 7 = .ok (.aload_n 0, 1) := by decide +kernel
theorem dX9_doAddSecret_8 : decode cX9_doAddSecret 8 = .ok (.iload_n 1, 1) := by decide +kernel
theorem dX9_doAddSecret_9 : decode cX9_doAddSecret 9 = .ok (.invokevirtual 133, 3) := by decide +kernel
theorem dX9_doAddSecret_12 : decode cX9_doAddSecret 12 = .ok (.ifCond .ne 9, 3) := by decide +kernel
theorem dX9_doAddSecret_15 : decode cX9_doAddSecret 15 = .ok (.aload_n 0, 1) := by decide +kernel
theorem dX9_doAddSecret_16 : decode cX9_doAddSecret 16 = .ok (.iconst 1, 1) := by decide +kernel
theorem dX9_doAddSecret_17 : decode cX9_doAddSecret 17 = .ok (.invokevirtual 63, 3) := by decide +kernel
theorem dX9_doAddSecret_20 : decode cX9_doAddSecret 20 = .ok (.ireturn, 1) := by decide +kernel
theorem dX9_doAddSecret_21 : decode cX9_doAddSecret 21 = .ok (.iload_n 2, 1) := by decide +kernel
theorem dX9_doAddSecret_22 : decode cX9_doAddSecret 22 = .ok (.bipush 6, 2) := by decide +kernel
theorem dX9_doAddSecret_24 : decode cX9_doAddSecret 24 = .ok (.if_icmp .ne 9, 3) := by decide +kernel
theorem dX9_doAddSecret_27 : decode cX9_doAddSecret 27 = .ok (.aload_n 0, 1) := by decide +kernel
theorem dX9_doAddSecret_28 : decode cX9_doAddSecret 28 = .ok (.iconst 2, 1) := by decide +kernel
theorem dX9_doAddSecret_29 : decode cX9_doAddSecret 29 = .ok (.invokevirtual 63, 3) := by decide +kernel
theorem dX9_doAddSecret_32 : decode cX9_doAddSecret 32 = .ok (.ireturn, 1) := by decide +kernel
theorem dX9_doAddSecret_33 : decode cX9_doAddSecret 33 = .ok (.aload_n 0, 1) := by decide +kernel
theorem dX9_doAddSecret_34 : decode cX9_doAddSecret 34 = .ok (.getfield 9, 3) := by decide +kernel
theorem dX9_doAddSecret_37 : decode cX9_doAddSecret 37 = .ok (.bipush 117, 2) := by decide +kernel
theorem dX9_doAddSecret_39 : decode cX9_doAddSecret 39 = .ok (.iconst 2, 1) := by decide +kernel
theorem dX9_doAddSecret_40 : decode cX9_doAddSecret 40 = .ok (.iload_n 2, 1) := by decide +kernel
theorem dX9_doAddSecret_41 : decode cX9_doAddSecret 41 = .ok (.imul, 1) := by decide +kernel
theorem dX9_doAddSecret_42 : decode cX9_doAddSecret 42 = .ok (.iadd, 1) := by decide +kernel
theorem dX9_doAddSecret_43 : decode cX9_doAddSecret 43 = .ok (.iload_n 1, 1) := by decide +kernel
theorem dX9_doAddSecret_44 : decode cX9_doAddSecret 44 = .ok (.iastore, 1) := by decide +kernel
theorem dX9_doAddSecret_45 : decode cX9_doAddSecret 45 = .ok (.aload_n 0, 1) := by decide +kernel
theorem dX9_doAddSecret_46 : decode cX9_doAddSecret 46 = .ok (.getfield 9, 3) := by decide +kernel
theorem dX9_doAddSecret_49 : decode cX9_doAddSecret 49 = .ok (.bipush 117, 2) := by decide +kernel
theorem dX9_doAddSecret_51 : decode cX9_doAddSecret 51 = .ok (.iconst 2, 1) := by decide +kernel
theorem dX9_doAddSecret_52 : decode cX9_doAddSecret 52 = .ok (.iload_n 2, 1) := by decide +kernel
theorem dX9_doAddSecret_53 : decode cX9_doAddSecret 53 = .ok (.imul, 1) := by decide +kernel
theorem dX9_doAddSecret_54 : decode cX9_doAddSecret 54 = .ok (.iadd, 1) := by decide +kernel
theorem dX9_doAddSecret_55 : decode cX9_doAddSecret 55 = .ok (.iconst 1, 1) := by decide +kernel
theorem dX9_doAddSecret_56 : decode cX9_doAddSecret 56 = .ok (.iadd, 1) := by decide +kernel
theorem dX9_doAddSecret_57 : decode cX9_doAddSecret 57 = .ok (.iconst 1, 1) := by decide +kernel
theorem dX9_doAddSecret_58 : decode cX9_doAddSecret 58 = .ok (.iload_n 1, 1) := by decide +kernel
theorem dX9_doAddSecret_59 : decode cX9_doAddSecret 59 = .ok (.ishl, 1) := by decide +kernel
theorem dX9_doAddSecret_60 : decode cX9_doAddSecret 60 = .ok (.iastore, 1) := by decide +kernel
theorem dX9_doAddSecret_61 : decode cX9_doAddSecret 61 = .ok (.aload_n 0, 1) := by decide +kernel
theorem dX9_doAddSecret_62 : decode cX9_doAddSecret 62 = .ok (.getfield 9, 3) := by decide +kernel
theorem dX9_doAddSecret_65 : decode cX9_doAddSecret 65 = .ok (.iconst 4, 1) := by decide +kernel
theorem dX9_doAddSecret_66 : decode cX9_doAddSecret 66 = .ok (.dup2, 1) := by decide +kernel
theorem dX9_doAddSecret_67 : decode cX9_doAddSecret 67 = .ok (.iaload, 1) := by decide +kernel
theorem dX9_doAddSecret_68 : decode cX9_doAddSecret 68 = .ok (.iconst 1, 1) := by decide +kernel
theorem dX9_doAddSecret_69 : decode cX9_doAddSecret 69 = .ok (.iadd, 1) := by decide +kernel
theorem dX9_doAddSecret_70 : decode cX9_doAddSecret 70 = .ok (.iastore, 1) := by decide +kernel
theorem dX9_doAddSecret_71 : decode cX9_doAddSecret 71 = .ok (.iload_n 2, 1) := by decide +kernel
theorem dX9_doAddSecret_72 : decode cX9_doAddSecret 72 = .ok (.ireturn, 1) := by decide +kernel
theorem dX9_addSecret_0 : decode cX9_addSecret 0 = .ok (.aload_n 0, 1) := by decide +kernel
theorem dX9_addSecret_1 : decode cX9_addSecret 1 = .ok (.invokevirtual 66, 3) := by decide +kernel
theorem dX9_addSecret_4 : decode cX9_addSecret 4 = .ok (.aload_n 0, 1) := by decide +kernel
theorem dX9_addSecret_5 : decode cX9_addSecret 5 = .ok (.aload_n 0, 1) := by decide +kernel
theorem dX9_addSecret_6 : decode cX9_addSecret 6 = .ok (.iload_n 1, 1) := by decide +kernel
theorem dX9_addSecret_7 : decode cX9_addSecret 7 = .ok (.invokevirtual 153, 3) := by decide +kernel
theorem dX9_addSecret_10 : decode cX9_addSecret 10 = .ok (.invokevirtual 72, 3) := by decide +kernel
theorem dX9_addSecret_13 : decode cX9_addSecret 13 = .ok (.ireturn, 1) := by decide +kernel
theorem dX9_bits_0 : decode cX9_bits 0 = .ok (.iconst 0, 1) := by decide +kernel
theorem dX9_bits_1 : decode cX9_bits 1 = .ok (.istore_n 1, 1) := by decide +kernel
theorem dX9_bits_2 : decode cX9_bits 2 = .ok (.iconst 0, 1) := by decide +kernel
theorem dX9_bits_3 : decode cX9_bits 3 = .ok (.istore_n 2, 1) := by decide +kernel
theorem dX9_bits_4 : decode cX9_bits 4 = .ok (.iload_n 2, 1) := by decide +kernel
theorem dX9_bits_5 : decode cX9_bits 5 = .ok (.bipush 10, 2) := by decide +kernel
theorem dX9_bits_7 : decode cX9_bits 7 = .ok (.if_icmp .ge 17, 3) := by decide +kernel
theorem dX9_bits_10 : decode cX9_bits 10 = .ok (.iload_n 1, 1) := by decide +kernel
theorem dX9_bits_11 : decode cX9_bits 11 = .ok (.iload_n 0, 1) := by decide +kernel
theorem dX9_bits_12 : decode cX9_bits 12 = .ok (.iload_n 2, 1) := by decide +kernel
theorem dX9_bits_13 : decode cX9_bits 13 = .ok (.ishr, 1) := by decide +kernel
theorem dX9_bits_14 : decode cX9_bits 14 = .ok (.iconst 1, 1) := by decide +kernel
theorem dX9_bits_15 : decode cX9_bits 15 = .ok (.iand, 1) := by decide +kernel
theorem dX9_bits_16 : decode cX9_bits 16 = .ok (.iadd, 1) := by decide +kernel
theorem dX9_bits_17 : decode cX9_bits 17 = .ok (.istore_n 1, 1) := by decide +kernel
theorem dX9_bits_18 : decode cX9_bits 18 = .ok (.iinc 2 1, 3) := by decide +kernel
theorem dX9_bits_21 : decode cX9_bits 21 = .ok (.goto (-17), 3) := by decide +kernel
theorem dX9_bits_24 : decode cX9_bits 24 = .ok (.iload_n 1, 1) := by decide +kernel
theorem dX9_bits_25 : decode cX9_bits 25 = .ok (.ireturn, 1) := by decide +kernel
theorem dX9_doWhisper_0 : decode cX9_doWhisper 0 = .ok (.aload_n 0, 1) := by decide +kernel
theorem dX9_doWhisper_1 : decode cX9_doWhisper 1 = .ok (.iload_n 1, 1) := by decide +kernel
theorem dX9_doWhisper_2 : decode cX9_doWhisper 2 = .ok (.invokevirtual 156, 3) := by decide +kernel
theorem dX9_doWhisper_5 : decode cX9_doWhisper 5 = .ok (.ifCond .eq 11, 3) := by decide +kernel
theorem dX9_doWhisper_8 : decode cX9_doWhisper 8 = .ok (.aload_n 0, 1) := by decide +kernel
theorem dX9_doWhisper_9 : decode cX9_doWhisper 9 = .ok (.iload_n 2, 1) := by decide +kernel
theorem dX9_doWhisper_10 : decode cX9_doWhisper 10 = .ok (.invokevirtual 133, 3) := by decide +kernel
theorem dX9_doWhisper_13 : decode cX9_doWhisper 13 = .ok (.ifCond .ne 9, 3) := by decide +kernel
theorem dX9_doWhisper_16 : decode cX9_doWhisper 16 = .ok (.aload_n 0, 1) := by decide +kernel
theorem dX9_doWhisper_17 : decode cX9_doWhisper 17 = .ok (.iconst 1, 1) := by decide +kernel
theorem dX9_doWhisper_18 : decode cX9_doWhisper 18 = .ok (.invokevirtual 63, 3) := by decide +kernel
theorem dX9_doWhisper_21 : decode cX9_doWhisper 21 = .ok (.ireturn, 1) := by decide +kernel
theorem dX9_doWhisper_22 : decode cX9_doWhisper 22 = .ok (.aload_n 0, 1) := by decide +kernel
theorem dX9_doWhisper_23 : decode cX9_doWhisper 23 = .ok (.iload_n 1, 1) := by decide +kernel
theorem dX9_doWhisper_24 : decode cX9_doWhisper 24 = .ok (.invokevirtual 159, 3) := by decide +kernel
theorem dX9_doWhisper_27 : decode cX9_doWhisper 27 = .ok (.istore_n 3, 1) := by decide +kernel
theorem dX9_doWhisper_28 : decode cX9_doWhisper 28 = .ok (.iload_n 3, 1) := by decide +kernel
theorem dX9_doWhisper_29 : decode cX9_doWhisper 29 = .ok (.ifCond .ge 9, 3) := by decide +kernel
theorem dX9_doWhisper_32 : decode cX9_doWhisper 32 = .ok (.aload_n 0, 1) := by decide +kernel
theorem dX9_doWhisper_33 : decode cX9_doWhisper 33 = .ok (.iconst 2, 1) := by decide +kernel
theorem dX9_doWhisper_34 : decode cX9_doWhisper 34 = .ok (.invokevirtual 63, 3) := by decide +kernel
theorem dX9_doWhisper_37 : decode cX9_doWhisper 37 = .ok (.ireturn, 1) := by decide +kernel
theorem dX9_doWhisper_38 : decode cX9_doWhisper 38 = .ok (.aload_n 0, 1) := by decide +kernel
theorem dX9_doWhisper_39 : decode cX9_doWhisper 39 = .ok (.iload_n 3, 1) := by decide +kernel
theorem dX9_doWhisper_40 : decode cX9_doWhisper 40 = .ok (.iconst 1, 1) := by decide +kernel
theorem dX9_doWhisper_41 : decode cX9_doWhisper 41 = .ok (.invokevirtual 117, 3) := by decide +kernel
theorem dX9_doWhisper_44 : decode cX9_doWhisper 44 = .ok (.istore 4, 2) := by decide +kernel
theorem dX9_doWhisper_46 : decode cX9_doWhisper 46 = .ok (.iload_n 2, 1) := by decide +kernel
theorem dX9_doWhisper_47 : decode cX9_doWhisper 47 = .ok (.iload_n 3, 1) := by decide +kernel
theorem dX9_doWhisper_48 : decode cX9_doWhisper 48 = .ok (.if_icmp .eq 19, 3) := by decide +kernel
theorem dX9_doWhisper_51 : decode cX9_doWhisper 51 = .ok (.iload 4, 2) := by decide +kernel
theorem dX9_doWhisper_53 : decode cX9_doWhisper 53 = .ok (.ifCond .lt 14, 3) := by decide +kernel
theorem dX9_doWhisper_56 : decode cX9_doWhisper 56 = .ok (.aload_n 0, 1) := by decide +kernel
theorem dX9_doWhisper_57 : decode cX9_doWhisper 57 = .ok (.iload_n 2, 1) := by decide +kernel
theorem dX9_doWhisper_58 : decode cX9_doWhisper 58 = .ok (.iconst 1, 1) := by decide +kernel
theorem dX9_doWhisper_59 : decode cX9_doWhisper 59 = .ok (.invokevirtual 117, 3) := by decide +kernel
theorem dX9_doWhisper_62 : decode cX9_doWhisper 62 = .ok (.iload 4, 2) := by decide +kernel
theorem dX9_doWhisper_64 : decode cX9_doWhisper 64 = .ok (.if_icmp .eq 9, 3) := by decide +kernel
theorem dX9_doWhisper_67 : decode cX9_doWhisper 67 = .ok (.aload_n 0, 1) := by decide +kernel
theorem dX9_doWhisper_68 : decode cX9_doWhisper 68 = .ok (.iconst 3, 1) := by decide +kernel
theorem dX9_doWhisper_69 : decode cX9_doWhisper 69 = .ok (.invokevirtual 63, 3) := by decide +kernel
theorem dX9_doWhisper_72 : decode cX9_doWhisper 72 = .ok (.ireturn, 1) := by decide +kernel
theorem dX9_doWhisper_73 : decode cX9_doWhisper 73 = .ok (.aload_n 0, 1) := by decide +kernel
theorem dX9_doWhisper_74 : decode cX9_doWhisper 74 = .ok (.iload_n 1, 1) := by decide +kernel
theorem dX9_doWhisper_75 : decode cX9_doWhisper 75 = .ok (.invokevirtual 162, 3) := by decide +kernel
theorem dX9_doWhisper_78 : decode cX9_doWhisper 78 = .ok (.istore 5, 2) := by decide +kernel
theorem dX9_doWhisper_80 : decode cX9_doWhisper 80 = .ok (.iconst 0, 1) := by decide +kernel
theorem dX9_doWhisper_81 : decode cX9_doWhisper 81 = .ok (.istore 6, 2) := by decide +kernel
theorem dX9_doWhisper_83 : decode cX9_doWhisper 83 = .ok (.iload 6, 2) := by decide +kernel
theorem dX9_doWhisper_85 : decode cX9_doWhisper 85 = .ok (.aload_n 0, 1) := by decide +kernel
theorem dX9_doWhisper_86 : decode cX9_doWhisper 86 = .ok (.getfield 9, 3) := by decide +kernel
theorem dX9_doWhisper_89 : decode cX9_doWhisper 89 = .ok (.iconst 3, 1) := by decide +kernel
theorem dX9_doWhisper_90 : decode cX9_doWhisper 90 = .ok (.iaload, 1) := by decide +kernel
theorem dX9_doWhisper_91 : decode cX9_doWhisper 91 = .ok (.if_icmp .ge 34, 3) := by decide +kernel
theorem dX9_doWhisper_94 : decode cX9_doWhisper 94 = .ok (.iload 5, 2) := by decide +kernel
theorem dX9_doWhisper_96 : decode cX9_doWhisper 96 = .ok (.aload_n 0, 1) := by decide +kernel
theorem dX9_doWhisper_97 : decode cX9_doWhisper 97 = .ok (.iload 6, 2) := by decide +kernel
theorem dX9_doWhisper_99 : decode cX9_doWhisper 99 = .ok (.iconst 1, 1) := by decide +kernel
theorem dX9_doWhisper_100 : decode cX9_doWhisper 100 = .ok (.invokevirtual 117, 3) := by decide +kernel
theorem dX9_doWhisper_103 : decode cX9_doWhisper 103 = .ok (.iload 4, 2) := by decide +kernel
theorem dX9_doWhisper_105 : decode cX9_doWhisper 105 = .ok (.if_icmp .ne 10, 3) := by decide +kernel
theorem dX9_doWhisper_108 : decode cX9_doWhisper 108 = .ok (.iconst 1, 1) := by decide +kernel
theorem dX9_doWhisper_109 : decode cX9_doWhisper 109 = .ok (.iload 6, 2) := by decide +kernel
theorem dX9_doWhisper_111 : decode cX9_doWhisper 111 = .ok (.ishl, 1) := by decide +kernel
theorem dX9_doWhisper_112 : decode cX9_doWhisper 112 = .ok (.goto 4, 3) := by decide +kernel
theorem dX9_doWhisper_115 : decode cX9_doWhisper 115 = .ok (.iconst 0, 1) := by decide +kernel
theorem dX9_doWhisper_116 : decode cX9_doWhisper 116 = .ok (.ior, 1) := by decide +kernel
theorem dX9_doWhisper_117 : decode cX9_doWhisper 117 = .ok (.istore 5, 2) := by decide +kernel
theorem dX9_doWhisper_119 : decode cX9_doWhisper 119 = .ok (.iinc 6 1, 3) := by decide +kernel
theorem dX9_doWhisper_122 : decode cX9_doWhisper 122 = .ok (.goto (-39), 3) := by decide +kernel
theorem dX9_doWhisper_125 : decode cX9_doWhisper 125 = .ok (.aload_n 0, 1) := by decide +kernel
theorem dX9_doWhisper_126 : decode cX9_doWhisper 126 = .ok (.getfield 9, 3) := by decide +kernel
theorem dX9_doWhisper_129 : decode cX9_doWhisper 129 = .ok (.bipush 117, 2) := by decide +kernel
theorem dX9_doWhisper_131 : decode cX9_doWhisper 131 = .ok (.iconst 2, 1) := by decide +kernel
theorem dX9_doWhisper_132 : decode cX9_doWhisper 132 = .ok (.iload_n 1, 1) := by decide +kernel
theorem dX9_doWhisper_133 : decode cX9_doWhisper 133 = .ok (.imul, 1) := by decide +kernel
theorem dX9_doWhisper_134 : decode cX9_doWhisper 134 = .ok (.iadd, 1) := by decide +kernel
theorem dX9_doWhisper_135 : decode cX9_doWhisper 135 = .ok (.iload_n 2, 1) := by decide +kernel
theorem dX9_doWhisper_136 : decode cX9_doWhisper 136 = .ok (.iastore, 1) := by decide +kernel
theorem dX9_doWhisper_137 : decode cX9_doWhisper 137 = .ok (.aload_n 0, 1) := by decide +kernel
theorem dX9_doWhisper_138 : decode cX9_doWhisper 138 = .ok (.getfield 9, 3) := by decide +kernel
theorem dX9_doWhisper_141 : decode cX9_doWhisper 141 = .ok (.bipush 117, 2) := by decide +kernel
theorem dX9_doWhisper_143 : decode cX9_doWhisper 143 = .ok (.iconst 2, 1) := by decide +kernel
theorem dX9_doWhisper_144 : decode cX9_doWhisper 144 = .ok (.iload_n 1, 1) := by decide +kernel
theorem dX9_doWhisper_145 : decode cX9_doWhisper 145 = .ok (.imul, 1) := by decide +kernel
theorem dX9_doWhisper_146 : decode cX9_doWhisper 146 = .ok (.iadd, 1) := by decide +kernel
theorem dX9_doWhisper_147 : decode cX9_doWhisper 147 = .ok (.iconst 1, 1) := by decide +kernel
theorem dX9_doWhisper_148 : decode cX9_doWhisper 148 = .ok (.iadd, 1) := by decide +kernel
theorem dX9_doWhisper_149 : decode cX9_doWhisper 149 = .ok (.iload 5, 2) := by decide +kernel
theorem dX9_doWhisper_151 : decode cX9_doWhisper 151 = .ok (.iastore, 1) := by decide +kernel
theorem dX9_doWhisper_152 : decode cX9_doWhisper 152 = .ok (.iload 5, 2) := by decide +kernel
theorem dX9_doWhisper_154 : decode cX9_doWhisper 154 = .ok (.invokestatic 165, 3) := by decide +kernel
theorem dX9_doWhisper_157 : decode cX9_doWhisper 157 = .ok (.ireturn, 1) := by decide +kernel
theorem dX9_whisper_0 : decode cX9_whisper 0 = .ok (.aload_n 0, 1) := by decide +kernel
theorem dX9_whisper_1 : decode cX9_whisper 1 = .ok (.invokevirtual 66, 3) := by decide +kernel
theorem dX9_whisper_4 : decode cX9_whisper 4 = .ok (.aload_n 0, 1) := by decide +kernel
theorem dX9_whisper_5 : decode cX9_whisper 5 = .ok (.aload_n 0, 1) := by decide +kernel
theorem dX9_whisper_6 : decode cX9_whisper 6 = .ok (.iload_n 1, 1) := by decide +kernel
theorem dX9_whisper_7 : decode cX9_whisper 7 = .ok (.iload_n 2, 1) := by decide +kernel
theorem dX9_whisper_8 : decode cX9_whisper 8 = .ok (.invokevirtual 168, 3) := by decide +kernel
theorem dX9_whisper_11 : decode cX9_whisper 11 = .ok (.invokevirtual 72, 3) := by decide +kernel
theorem dX9_whisper_14 : decode cX9_whisper 14 = .ok (.ireturn, 1) := by decide +kernel
theorem dX9_secretCount_0 : decode cX9_secretCount 0 = .ok (.aload_n 0, 1) := by decide +kernel
theorem dX9_secretCount_1 : decode cX9_secretCount 1 = .ok (.iconst 0, 1) := by decide +kernel
theorem dX9_secretCount_2 : decode cX9_secretCount 2 = .ok (.putfield 39, 3) := by decide +kernel
theorem dX9_secretCount_5 : decode cX9_secretCount 5 = .ok (.aload_n 0, 1) := by decide +kernel
theorem dX9_secretCount_6 : decode cX9_secretCount 6 = .ok (.getfield 9, 3) := by decide +kernel
theorem dX9_secretCount_9 : decode cX9_secretCount 9 = .ok (.iconst 4, 1) := by decide +kernel
theorem dX9_secretCount_10 : decode cX9_secretCount 10 = .ok (.iaload, 1) := by decide +kernel
theorem dX9_secretCount_11 : decode cX9_secretCount 11 = .ok (.ireturn, 1) := by decide +kernel
theorem dX9_carrierOf_0 : decode cX9_carrierOf 0 = .ok (.aload_n 0, 1) := by decide +kernel
theorem dX9_carrierOf_1 : decode cX9_carrierOf 1 = .ok (.aload_n 0, 1) := by decide +kernel
theorem dX9_carrierOf_2 : decode cX9_carrierOf 2 = .ok (.iload_n 1, 1) := by decide +kernel
theorem dX9_carrierOf_3 : decode cX9_carrierOf 3 = .ok (.invokevirtual 156, 3) := by decide +kernel
theorem dX9_carrierOf_6 : decode cX9_carrierOf 6 = .ok (.invokevirtual 91, 3) := by decide +kernel
theorem dX9_carrierOf_9 : decode cX9_carrierOf 9 = .ok (.ifCond .eq 11, 3) := by decide +kernel
theorem dX9_carrierOf_12 : decode cX9_carrierOf 12 = .ok (.aload_n 0, 1) := by decide +kernel
theorem dX9_carrierOf_13 : decode cX9_carrierOf 13 = .ok (.iload_n 1, 1) := by decide +kernel
theorem dX9_carrierOf_14 : decode cX9_carrierOf 14 = .ok (.invokevirtual 159, 3) := by decide +kernel
theorem dX9_carrierOf_17 : decode cX9_carrierOf 17 = .ok (.goto 4, 3) := by decide +kernel
theorem dX9_carrierOf_20 : decode cX9_carrierOf 20 = .ok (.iconst 0, 1) := by decide +kernel
theorem dX9_carrierOf_21 : decode cX9_carrierOf 21 = .ok (.ireturn, 1) := by decide +kernel
theorem dX9_isTruth_0 : decode cX9_isTruth 0 = .ok (.aload_n 0, 1) := by decide +kernel
theorem dX9_isTruth_1 : decode cX9_isTruth 1 = .ok (.aload_n 0, 1) := by decide +kernel
theorem dX9_isTruth_2 : decode cX9_isTruth 2 = .ok (.iload_n 1, 1) := by decide +kernel
theorem dX9_isTruth_3 : decode cX9_isTruth 3 = .ok (.invokevirtual 156, 3) := by decide +kernel
theorem dX9_isTruth_6 : decode cX9_isTruth 6 = .ok (.invokevirtual 91, 3) := by decide +kernel
theorem dX9_isTruth_9 : decode cX9_isTruth 9 = .ok (.ifCond .eq 15, 3) := by decide +kernel
theorem dX9_isTruth_12 : decode cX9_isTruth 12 = .ok (.aload_n 0, 1) := by decide +kernel
theorem dX9_isTruth_13 : decode cX9_isTruth 13 = .ok (.iload_n 1, 1) := by decide +kernel
theorem dX9_isTruth_14 : decode cX9_isTruth 14 = .ok (.invokevirtual 159, 3) := by decide +kernel
theorem dX9_isTruth_17 : decode cX9_isTruth 17 = .ok (.ifCond .ge 7, 3) := by decide +kernel
theorem dX9_isTruth_20 : decode cX9_isTruth 20 = .ok (.iconst 1, 1) := by decide +kernel
theorem dX9_isTruth_21 : decode cX9_isTruth 21 = .ok (.goto 4, 3) := by decide +kernel
theorem dX9_isTruth_24 : decode cX9_isTruth 24 = .ok (.iconst 0, 1) := by decide +kernel
theorem dX9_isTruth_25 : decode cX9_isTruth 25 = .ok (.ireturn, 1) := by decide +kernel
theorem dX9_knows_0 : decode cX9_knows 0 = .ok (.aload_n 0, 1) := by decide +kernel
theorem dX9_knows_1 : decode cX9_knows 1 = .ok (.aload_n 0, 1) := by decide +kernel
theorem dX9_knows_2 : decode cX9_knows 2 = .ok (.iload_n 1, 1) := by decide +kernel
theorem dX9_knows_3 : decode cX9_knows 3 = .ok (.invokevirtual 133, 3) := by decide +kernel
theorem dX9_knows_6 : decode cX9_knows 6 = .ok (.ifCond .eq 15, 3) := by decide +kernel
theorem dX9_knows_9 : decode cX9_knows 9 = .ok (.aload_n 0, 1) := by decide +kernel
theorem dX9_knows_10 : decode cX9_knows 10 = .ok (.iload_n 2, 1) := by decide +kernel
theorem dX9_knows_11 : decode cX9_knows 11 = .ok (.invokevirtual 156, 3) := by decide +kernel
theorem dX9_knows_14 : decode cX9_knows 14 = .ok (.ifCond .eq 7, 3) := by decide +kernel
theorem dX9_knows_17 : decode cX9_knows 17 = .ok (.iconst 1, 1) := by decide +kernel
theorem dX9_knows_18 : decode cX9_knows 18 = .ok (.goto 4, 3) := by decide +kernel
theorem dX9_knows_21 : decode cX9_knows 21 = .ok (.iconst 0, 1) := by decide +kernel
theorem dX9_knows_22 : decode cX9_knows 22 = .ok (.invokevirtual 91, 3) := by decide +kernel
theorem dX9_knows_25 : decode cX9_knows 25 = .ok (.ifCond .eq 20, 3) := by decide +kernel
theorem dX9_knows_28 : decode cX9_knows 28 = .ok (.aload_n 0, 1) := by decide +kernel
theorem dX9_knows_29 : decode cX9_knows 29 = .ok (.iload_n 2, 1) := by decide +kernel
theorem dX9_knows_30 : decode cX9_knows 30 = .ok (.invokevirtual 162, 3) := by decide +kernel
theorem dX9_knows_33 : decode cX9_knows 33 = .ok (.iload_n 1, 1) := by decide +kernel
theorem dX9_knows_34 : decode cX9_knows 34 = .ok (.ishr, 1) := by decide +kernel
theorem dX9_knows_35 : decode cX9_knows 35 = .ok (.iconst 1, 1) := by decide +kernel
theorem dX9_knows_36 : decode cX9_knows 36 = .ok (.iand, 1) := by decide +kernel
theorem dX9_knows_37 : decode cX9_knows 37 = .ok (.iconst 1, 1) := by decide +kernel
theorem dX9_knows_38 : decode cX9_knows 38 = .ok (.if_icmp .ne 7, 3) := by decide +kernel
theorem dX9_knows_41 : decode cX9_knows 41 = .ok (.iconst 1, 1) := by decide +kernel
theorem dX9_knows_42 : decode cX9_knows 42 = .ok (.goto 4, 3) := by decide +kernel
theorem dX9_knows_45 : decode cX9_knows 45 = .ok (.iconst 0, 1) := by decide +kernel
theorem dX9_knows_46 : decode cX9_knows 46 = .ok (.ireturn, 1) := by decide +kernel
theorem dX9_knowerCount_0 : decode cX9_knowerCount 0 = .ok (.aload_n 0, 1) := by decide +kernel
theorem dX9_knowerCount_1 : decode cX9_knowerCount 1 = .ok (.aload_n 0, 1) := by decide +kernel
theorem dX9_knowerCount_2 : decode cX9_knowerCount 2 = .ok (.iload_n 1, 1) := by decide +kernel
theorem dX9_knowerCount_3 : decode cX9_knowerCount 3 = .ok (.invokevirtual 156, 3) := by decide +kernel
theorem dX9_knowerCount_6 : decode cX9_knowerCount 6 = .ok (.invokevirtual 91, 3) := by decide +kernel
theorem dX9_knowerCount_9 : decode cX9_knowerCount 9 = .ok (.ifCond .eq 14, 3) := by decide +kernel
theorem dX9_knowerCount_12 : decode cX9_knowerCount 12 = .ok (.aload_n 0, 1) := by decide +kernel
theorem dX9_knowerCount_13 : decode cX9_knowerCount 13 = .ok (.iload_n 1, 1) := by decide +kernel
theorem dX9_knowerCount_14 : decode cX9_knowerCount 14 = .ok (.invokevirtual 162, 3) := by decide +kernel
theorem dX9_knowerCount_17 : decode cX9_knowerCount 17 = .ok (.invokestatic 165, 3) := by decide +kernel
theorem dX9_knowerCount_20 : decode cX9_knowerCount 20 = .ok (.goto 4, 3) := by decide +kernel
theorem dX9_knowerCount_23 : decode cX9_knowerCount 23 = .ok (.iconst 0, 1) := by decide +kernel
theorem dX9_knowerCount_24 : decode cX9_knowerCount 24 = .ok (.ireturn, 1) := by decide +kernel
theorem dX9_knownBy_0 : decode cX9_knownBy 0 = .ok (.iconst 0, 1) := by decide +kernel
theorem dX9_knownBy_1 : decode cX9_knownBy 1 = .ok (.istore_n 2, 1) := by decide +kernel
theorem dX9_knownBy_2 : decode cX9_knownBy 2 = .ok (.iconst 0, 1) := by decide +kernel
theorem dX9_knownBy_3 : decode cX9_knownBy 3 = .ok (.istore_n 3, 1) := by decide +kernel
theorem dX9_knownBy_4 : decode cX9_knownBy 4 = .ok (.iload_n 3, 1) := by decide +kernel
theorem dX9_knownBy_5 : decode cX9_knownBy 5 = .ok (.aload_n 0, 1) := by decide +kernel
theorem dX9_knownBy_6 : decode cX9_knownBy 6 = .ok (.getfield 9, 3) := by decide +kernel
theorem dX9_knownBy_9 : decode cX9_knownBy 9 = .ok (.iconst 4, 1) := by decide +kernel
theorem dX9_knownBy_10 : decode cX9_knownBy 10 = .ok (.iaload, 1) := by decide +kernel
theorem dX9_knownBy_11 : decode cX9_knownBy 11 = .ok (.if_icmp .ge 21, 3) := by decide +kernel
theorem dX9_knownBy_14 : decode cX9_knownBy 14 = .ok (.iload_n 2, 1) := by decide +kernel
theorem dX9_knownBy_15 : decode cX9_knownBy 15 = .ok (.aload_n 0, 1) := by decide +kernel
theorem dX9_knownBy_16 : decode cX9_knownBy 16 = .ok (.iload_n 3, 1) := by decide +kernel
theorem dX9_knownBy_17 : decode cX9_knownBy 17 = .ok (.invokevirtual 162, 3) := by decide +kernel
theorem dX9_knownBy_20 : decode cX9_knownBy 20 = .ok (.iload_n 1, 1) := by decide +kernel
theorem dX9_knownBy_21 : decode cX9_knownBy 21 = .ok (.ishr, 1) := by decide +kernel
theorem dX9_knownBy_22 : decode cX9_knownBy 22 = .ok (.iconst 1, 1) := by decide +kernel
theorem dX9_knownBy_23 : decode cX9_knownBy 23 = .ok (.iand, 1) := by decide +kernel
theorem dX9_knownBy_24 : decode cX9_knownBy 24 = .ok (.iadd, 1) := by decide +kernel
theorem dX9_knownBy_25 : decode cX9_knownBy 25 = .ok (.istore_n 2, 1) := by decide +kernel
theorem dX9_knownBy_26 : decode cX9_knownBy 26 = .ok (.iinc 3 1, 3) := by decide +kernel
theorem dX9_knownBy_29 : decode cX9_knownBy 29 = .ok (.goto (-25), 3) := by decide +kernel
theorem dX9_knownBy_32 : decode cX9_knownBy 32 = .ok (.iload_n 2, 1) := by decide +kernel
theorem dX9_knownBy_33 : decode cX9_knownBy 33 = .ok (.ireturn, 1) := by decide +kernel
theorem dX9_wisestPassenger_0 : decode cX9_wisestPassenger 0 = .ok (.aload_n 0, 1) := by decide +kernel
theorem dX9_wisestPassenger_1 : decode cX9_wisestPassenger 1 = .ok (.aload_n 0, 1) := by decide +kernel
theorem dX9_wisestPassenger_2 : decode cX9_wisestPassenger 2 = .ok (.iload_n 1, 1) := by decide +kernel
theorem dX9_wisestPassenger_3 : decode cX9_wisestPassenger 3 = .ok (.invokevirtual 133, 3) := by decide +kernel
theorem dX9_wisestPassenger_6 : decode cX9_wisestPassenger 6 = .ok (.ifCond .eq 7, 3) := by decide +kernel
theorem dX9_wisestPassenger_9 : decode cX9_wisestPassenger 9 = .ok (.iconst 0, 1) := by decide +kernel
theorem dX9_wisestPassenger_10 : decode cX9_wisestPassenger 10 = .ok (.goto 4, 3) := by decide +kernel
theorem dX9_wisestPassenger_13 : decode cX9_wisestPassenger 13 = .ok (.iconst 1, 1) := by decide +kernel
theorem dX9_wisestPassenger_14 : decode cX9_wisestPassenger 14 = .ok (.putfield 39, 3) := by decide +kernel
theorem dX9_wisestPassenger_17 : decode cX9_wisestPassenger 17 = .ok (.iconst 0, 1) := by decide +kernel
theorem dX9_wisestPassenger_18 : decode cX9_wisestPassenger 18 = .ok (.istore_n 2, 1) := by decide +kernel
theorem dX9_wisestPassenger_19 : decode cX9_wisestPassenger 19 = .ok (.iconst 0, 1) := by decide +kernel
theorem dX9_wisestPassenger_20 : decode cX9_wisestPassenger 20 = .ok (.istore_n 3, 1) := by decide +kernel
theorem dX9_wisestPassenger_21 : decode cX9_wisestPassenger 21 = .ok (.iload_n 3, 1) := by decide +kernel
theorem dX9_wisestPassenger_22 : decode cX9_wisestPassenger 22 = .ok (.aload_n 0, 1) := by decide +kernel
theorem dX9_wisestPassenger_23 : decode cX9_wisestPassenger 23 = .ok (.getfield 9, 3) := by decide +kernel
theorem dX9_wisestPassenger_26 : decode cX9_wisestPassenger 26 = .ok (.iconst 3, 1) := by decide +kernel
theorem dX9_wisestPassenger_27 : decode cX9_wisestPassenger 27 = .ok (.iaload, 1) := by decide +kernel
theorem dX9_wisestPassenger_28 : decode cX9_wisestPassenger 28 = .ok (.if_icmp .ge 91, 3) := by decide +kernel
theorem dX9_wisestPassenger_31 : decode cX9_wisestPassenger 31 = .ok (.aload_n 0, 1) := by decide +kernel
theorem dX9_wisestPassenger_32 : decode cX9_wisestPassenger 32 = .ok (.getfield 39, 3) := by decide +kernel
theorem dX9_wisestPassenger_35 : decode cX9_wisestPassenger 35 = .ok (.ifCond .ne 84, 3) := by decide +kernel
theorem dX9_wisestPassenger_38 : decode cX9_wisestPassenger 38 = .ok (.iconst 0, 1) := by decide +kernel
theorem dX9_wisestPassenger_39 : decode cX9_wisestPassenger 39 = .ok (.istore 4, 2) := by decide +kernel
theorem dX9_wisestPassenger_41 : decode cX9_wisestPassenger 41 = .ok (.iconst 0, 1) := by decide +kernel
theorem dX9_wisestPassenger_42 : decode cX9_wisestPassenger 42 = .ok (.istore 5, 2) := by decide +kernel
theorem dX9_wisestPassenger_44 : decode cX9_wisestPassenger 44 = .ok (.iload 5, 2) := by decide +kernel
theorem dX9_wisestPassenger_46 : decode cX9_wisestPassenger 46 = .ok (.aload_n 0, 1) := by decide +kernel
theorem dX9_wisestPassenger_47 : decode cX9_wisestPassenger 47 = .ok (.getfield 9, 3) := by decide +kernel
theorem dX9_wisestPassenger_50 : decode cX9_wisestPassenger 50 = .ok (.iconst 3, 1) := by decide +kernel
theorem dX9_wisestPassenger_51 : decode cX9_wisestPassenger 51 = .ok (.iaload, 1) := by decide +kernel
theorem dX9_wisestPassenger_52 : decode cX9_wisestPassenger 52 = .ok (.if_icmp .ge 49, 3) := by decide +kernel
theorem dX9_wisestPassenger_55 : decode cX9_wisestPassenger 55 = .ok (.aload_n 0, 1) := by decide +kernel
theorem dX9_wisestPassenger_56 : decode cX9_wisestPassenger 56 = .ok (.iload 5, 2) := by decide +kernel
theorem dX9_wisestPassenger_58 : decode cX9_wisestPassenger 58 = .ok (.invokevirtual 171, 3) := by decide +kernel
theorem dX9_wisestPassenger_61 : decode cX9_wisestPassenger 61 = .ok (.aload_n 0, 1) := by decide +kernel
theorem dX9_wisestPassenger_62 : decode cX9_wisestPassenger 62 = .ok (.iload_n 3, 1) := by decide +kernel
theorem dX9_wisestPassenger_63 : decode cX9_wisestPassenger 63 = .ok (.invokevirtual 171, 3) := by decide +kernel
theorem dX9_wisestPassenger_66 : decode cX9_wisestPassenger 66 = .ok (.isub, 1) := by decide +kernel
theorem dX9_wisestPassenger_67 : decode cX9_wisestPassenger 67 = .ok (.istore 6, 2) := by decide +kernel
theorem dX9_wisestPassenger_69 : decode cX9_wisestPassenger 69 = .ok (.iload 4, 2) := by decide +kernel
theorem dX9_wisestPassenger_71 : decode cX9_wisestPassenger 71 = .ok (.iload 6, 2) := by decide +kernel
theorem dX9_wisestPassenger_73 : decode cX9_wisestPassenger 73 = .ok (.ifCond .gt 14, 3) := by decide +kernel
theorem dX9_wisestPassenger_76 : decode cX9_wisestPassenger 76 = .ok (.iload 6, 2) := by decide +kernel
theorem dX9_wisestPassenger_78 : decode cX9_wisestPassenger 78 = .ok (.ifCond .ne 13, 3) := by decide +kernel
theorem dX9_wisestPassenger_81 : decode cX9_wisestPassenger 81 = .ok (.iload 5, 2) := by decide +kernel
theorem dX9_wisestPassenger_83 : decode cX9_wisestPassenger 83 = .ok (.iload_n 3, 1) := by decide +kernel
theorem dX9_wisestPassenger_84 : decode cX9_wisestPassenger 84 = .ok (.if_icmp .ge 7, 3) := by decide +kernel
theorem dX9_wisestPassenger_87 : decode cX9_wisestPassenger 87 = .ok (.iconst 1, 1) := by decide +kernel
theorem dX9_wisestPassenger_88 : decode cX9_wisestPassenger 88 = .ok (.goto 4, 3) := by decide +kernel
theorem dX9_wisestPassenger_91 : decode cX9_wisestPassenger 91 = .ok (.iconst 0, 1) := by decide +kernel
theorem dX9_wisestPassenger_92 : decode cX9_wisestPassenger 92 = .ok (.iadd, 1) := by decide +kernel
theorem dX9_wisestPassenger_93 : decode cX9_wisestPassenger 93 = .ok (.istore 4, 2) := by decide +kernel
theorem dX9_wisestPassenger_95 : decode cX9_wisestPassenger 95 = .ok (.iinc 5 1, 3) := by decide +kernel
theorem dX9_wisestPassenger_98 : decode cX9_wisestPassenger 98 = .ok (.goto (-54), 3) := by decide +kernel
theorem dX9_wisestPassenger_101 : decode cX9_wisestPassenger 101 = .ok (.iload 4, 2) := by decide +kernel
theorem dX9_wisestPassenger_103 : decode cX9_wisestPassenger 103 = .ok (.iload_n 1, 1) := by decide +kernel
theorem dX9_wisestPassenger_104 : decode cX9_wisestPassenger 104 = .ok (.if_icmp .ne 7, 3) := by decide +kernel
theorem dX9_wisestPassenger_107 : decode cX9_wisestPassenger 107 = .ok (.iload_n 3, 1) := by decide +kernel
theorem dX9_wisestPassenger_108 : decode cX9_wisestPassenger 108 = .ok (.goto 4, 3) := by decide +kernel
theorem dX9_wisestPassenger_111 : decode cX9_wisestPassenger 111 = .ok (.iload_n 2, 1) := by decide +kernel
theorem dX9_wisestPassenger_112 : decode cX9_wisestPassenger 112 = .ok (.istore_n 2, 1) := by decide +kernel
theorem dX9_wisestPassenger_113 : decode cX9_wisestPassenger 113 = .ok (.iinc 3 1, 3) := by decide +kernel
theorem dX9_wisestPassenger_116 : decode cX9_wisestPassenger 116 = .ok (.goto (-95), 3) := by decide +kernel
theorem dX9_wisestPassenger_119 : decode cX9_wisestPassenger 119 = .ok (.iload_n 2, 1) := by decide +kernel
theorem dX9_wisestPassenger_120 : decode cX9_wisestPassenger 120 = .ok (.ireturn, 1) := by decide +kernel
theorem dX9_widens_0 : decode cX9_widens 0 = .ok (.iload_n 1, 1) := by decide +kernel
theorem dX9_widens_1 : decode cX9_widens 1 = .ok (.istore_n 3, 1) := by decide +kernel
theorem dX9_widens_2 : decode cX9_widens 2 = .ok (.iconst 0, 1) := by decide +kernel
theorem dX9_widens_3 : decode cX9_widens 3 = .ok (.istore 4, 2) := by decide +kernel
theorem dX9_widens_5 : decode cX9_widens 5 = .ok (.iload 4, 2) := by decide +kernel
theorem dX9_widens_7 : decode cX9_widens 7 = .ok (.aload_n 0, 1) := by decide +kernel
theorem dX9_widens_8 : decode cX9_widens 8 = .ok (.getfield 9, 3) := by decide +kernel
theorem dX9_widens_11 : decode cX9_widens 11 = .ok (.iconst 1, 1) := by decide +kernel
theorem dX9_widens_12 : decode cX9_widens 12 = .ok (.iaload, 1) := by decide +kernel
theorem dX9_widens_13 : decode cX9_widens 13 = .ok (.if_icmp .ge 110, 3) := by decide +kernel
theorem dX9_widens_16 : decode cX9_widens 16 = .ok (.iconst 0, 1) := by decide +kernel
theorem dX9_widens_17 : decode cX9_widens 17 = .ok (.istore 5, 2) := by decide +kernel
theorem dX9_widens_19 : decode cX9_widens 19 = .ok (.iload 5, 2) := by decide +kernel
theorem dX9_widens_21 : decode cX9_widens 21 = .ok (.aload_n 0, 1) := by decide +kernel
theorem dX9_widens_22 : decode cX9_widens 22 = .ok (.iload 4, 2) := by decide +kernel
theorem dX9_widens_24 : decode cX9_widens 24 = .ok (.invokevirtual 55, 3) := by decide +kernel
theorem dX9_widens_27 : decode cX9_widens 27 = .ok (.if_icmp .ge 90, 3) := by decide +kernel
theorem dX9_widens_30 : decode cX9_widens 30 = .ok (.iconst 0, 1) := by decide +kernel
theorem dX9_widens_31 : decode cX9_widens 31 = .ok (.istore 6, 2) := by decide +kernel
theorem dX9_widens_33 : decode cX9_widens 33 = .ok (.iload 6, 2) := by decide +kernel
theorem dX9_widens_35 : decode cX9_widens 35 = .ok (.aload_n 0, 1) := by decide +kernel
theorem dX9_widens_36 : decode cX9_widens 36 = .ok (.iload 4, 2) := by decide +kernel
theorem dX9_widens_38 : decode cX9_widens 38 = .ok (.invokevirtual 55, 3) := by decide +kernel
theorem dX9_widens_41 : decode cX9_widens 41 = .ok (.if_icmp .ge 70, 3) := by decide +kernel
theorem dX9_widens_44 : decode cX9_widens 44 = .ok (.iload_n 1, 1) := by decide +kernel
theorem dX9_widens_45 : decode cX9_widens 45 = .ok (.aload_n 0, 1) := by decide +kernel
theorem dX9_widens_46 : decode cX9_widens 46 = .ok (.iload 4, 2) := by decide +kernel
theorem dX9_widens_48 : decode cX9_widens 48 = .ok (.iload 5, 2) := by decide +kernel
theorem dX9_widens_50 : decode cX9_widens 50 = .ok (.invokevirtual 59, 3) := by decide +kernel
theorem dX9_widens_53 : decode cX9_widens 53 = .ok (.ishr, 1) := by decide +kernel
theorem dX9_widens_54 : decode cX9_widens 54 = .ok (.iconst 1, 1) := by decide +kernel
theorem dX9_widens_55 : decode cX9_widens 55 = .ok (.iand, 1) := by decide +kernel
theorem dX9_widens_56 : decode cX9_widens 56 = .ok (.iconst 1, 1) := by decide +kernel
theorem dX9_widens_57 : decode cX9_widens 57 = .ok (.if_icmp .ne 23, 3) := by decide +kernel
theorem dX9_widens_60 : decode cX9_widens 60 = .ok (.iload_n 2, 1) := by decide +kernel
theorem dX9_widens_61 : decode cX9_widens 61 = .ok (.ifCond .eq 15, 3) := by decide +kernel
theorem dX9_widens_64 : decode cX9_widens 64 = .ok (.iload 5, 2) := by decide +kernel
theorem dX9_widens_66 : decode cX9_widens 66 = .ok (.iload 6, 2) := by decide +kernel
theorem dX9_widens_68 : decode cX9_widens 68 = .ok (.isub, 1) := by decide +kernel
theorem dX9_widens_69 : decode cX9_widens 69 = .ok (.invokestatic 174, 3) := by decide +kernel
theorem dX9_widens_72 : decode cX9_widens 72 = .ok (.iconst 1, 1) := by decide +kernel
theorem dX9_widens_73 : decode cX9_widens 73 = .ok (.if_icmp .ne 7, 3) := by decide +kernel
theorem dX9_widens_76 : decode cX9_widens 76 = .ok (.iconst 1, 1) := by decide +kernel
theorem dX9_widens_77 : decode cX9_widens 77 = .ok (.goto 4, 3) := by decide +kernel
theorem dX9_widens_80 : decode cX9_widens 80 = .ok (.iconst 0, 1) := by decide +kernel
theorem dX9_widens_81 : decode cX9_widens 81 = .ok (.istore 7, 2) := by decide +kernel
theorem dX9_widens_83 : decode cX9_widens 83 = .ok (.iload_n 3, 1) := by decide +kernel
theorem dX9_widens_84 : decode cX9_widens 84 = .ok (.iload 7, 2) := by decide +kernel
theorem dX9_widens_86 : decode cX9_widens 86 = .ok (.ifCond .eq 16, 3) := by decide +kernel
theorem dX9_widens_89 : decode cX9_widens 89 = .ok (.iconst 1, 1) := by decide +kernel
theorem dX9_widens_90 : decode cX9_widens 90 = .ok (.aload_n 0, 1) := by decide +kernel
theorem dX9_widens_91 : decode cX9_widens 91 = .ok (.iload 4, 2) := by decide +kernel
theorem dX9_widens_93 : decode cX9_widens 93 = .ok (.iload 6, 2) := by decide +kernel
theorem dX9_widens_95 : decode cX9_widens 95 = .ok (.invokevirtual 59, 3) := by decide +kernel
theorem dX9_widens_98 : decode cX9_widens 98 = .ok (.ishl, 1) := by decide +kernel
theorem dX9_widens_99 : decode cX9_widens 99 = .ok (.goto 4, 3) := by decide +kernel
theorem dX9_widens_102 : decode cX9_widens 102 = .ok (.iconst 0, 1) := by decide +kernel
theorem dX9_widens_103 : decode cX9_widens 103 = .ok (.ior, 1) := by decide +kernel
theorem dX9_widens_104 : decode cX9_widens 104 = .ok (.istore_n 3, 1) := by decide +kernel
theorem dX9_widens_105 : decode cX9_widens 105 = .ok (.iinc 6 1, 3) := by decide +kernel
theorem dX9_widens_108 : decode cX9_widens 108 = .ok (.goto (-75), 3) := by decide +kernel
theorem dX9_widens_111 : decode cX9_widens 111 = .ok (.iinc 5 1, 3) := by decide +kernel
theorem dX9_widens_114 : decode cX9_widens 114 = .ok (.goto (-95), 3) := by decide +kernel
theorem dX9_widens_117 : decode cX9_widens 117 = .ok (.iinc 4 1, 3) := by decide +kernel
theorem dX9_widens_120 : decode cX9_widens 120 = .ok (.goto (-115), 3) := by decide +kernel
theorem dX9_widens_123 : decode cX9_widens 123 = .ok (.iload_n 3, 1) := by decide +kernel
theorem dX9_widens_124 : decode cX9_widens 124 = .ok (.ireturn, 1) := by decide +kernel
theorem dX9_widenings_0 : decode cX9_widenings 0 = .ok (.iconst 1, 1) := by decide +kernel
theorem dX9_widenings_1 : decode cX9_widenings 1 = .ok (.iload_n 1, 1) := by decide +kernel
theorem dX9_widenings_2 : decode cX9_widenings 2 = .ok (.ishl, 1) := by decide +kernel
theorem dX9_widenings_3 : decode cX9_widenings 3 = .ok (.istore 4, 2) := by decide +kernel
theorem dX9_widenings_5 : decode cX9_widenings 5 = .ok (.iconst 0, 1) := by decide +kernel
theorem dX9_widenings_6 : decode cX9_widenings 6 = .ok (.istore 5, 2) := by decide +kernel
theorem dX9_widenings_8 : decode cX9_widenings 8 = .ok (.iload 4, 2) := by decide +kernel
theorem dX9_widenings_10 : decode cX9_widenings 10 = .ok (.iload_n 2, 1) := by decide +kernel
theorem dX9_widenings_11 : decode cX9_widenings 11 = .ok (.ishr, 1) := by decide +kernel
theorem dX9_widenings_12 : decode cX9_widenings 12 = .ok (.iconst 1, 1) := by decide +kernel
theorem dX9_widenings_13 : decode cX9_widenings 13 = .ok (.iand, 1) := by decide +kernel
theorem dX9_widenings_14 : decode cX9_widenings 14 = .ok (.ifCond .ne 31, 3) := by decide +kernel
theorem dX9_widenings_17 : decode cX9_widenings 17 = .ok (.aload_n 0, 1) := by decide +kernel
theorem dX9_widenings_18 : decode cX9_widenings 18 = .ok (.iload 4, 2) := by decide +kernel
theorem dX9_widenings_20 : decode cX9_widenings 20 = .ok (.iload_n 3, 1) := by decide +kernel
theorem dX9_widenings_21 : decode cX9_widenings 21 = .ok (.invokevirtual 179, 3) := by decide +kernel
theorem dX9_widenings_24 : decode cX9_widenings 24 = .ok (.istore 6, 2) := by decide +kernel
theorem dX9_widenings_26 : decode cX9_widenings 26 = .ok (.iload 6, 2) := by decide +kernel
theorem dX9_widenings_28 : decode cX9_widenings 28 = .ok (.iload 4, 2) := by decide +kernel
theorem dX9_widenings_30 : decode cX9_widenings 30 = .ok (.if_icmp .ne 5, 3) := by decide +kernel
theorem dX9_widenings_33 : decode cX9_widenings 33 = .ok (.iconst (-1), 1) := by decide +kernel
theorem dX9_widenings_34 : decode cX9_widenings 34 = .ok (.ireturn, 1) := by decide +kernel
theorem dX9_widenings_35 : decode cX9_widenings 35 = .ok (.iload 6, 2) := by decide +kernel
theorem dX9_widenings_37 : decode cX9_widenings 37 = .ok (.istore 4, 2) := by decide +kernel
theorem dX9_widenings_39 : decode cX9_widenings 39 = .ok (.iinc 5 1, 3) := by decide +kernel
theorem dX9_widenings_42 : decode cX9_widenings 42 = .ok (.goto (-34), 3) := by decide +kernel
theorem dX9_widenings_45 : decode cX9_widenings 45 = .ok (.iload 5, 2) := by decide +kernel
theorem dX9_widenings_47 : decode cX9_widenings 47 = .ok (.ireturn, 1) := by decide +kernel
theorem dX9_distance_0 : decode cX9_distance 0 = .ok (.aload_n 0, 1) := by decide +kernel
theorem dX9_distance_1 : decode cX9_distance 1 = .ok (.iload_n 1, 1) := by decide +kernel
theorem dX9_distance_2 : decode cX9_distance 2 = .ok (.invokevirtual 75, 3) := by decide +kernel
theorem dX9_distance_5 : decode cX9_distance 5 = .ok (.ifCond .eq 11, 3) := by decide +kernel
theorem dX9_distance_8 : decode cX9_distance 8 = .ok (.aload_n 0, 1) := by decide +kernel
theorem dX9_distance_9 : decode cX9_distance 9 = .ok (.iload_n 2, 1) := by decide +kernel
theorem dX9_distance_10 : decode cX9_distance 10 = .ok (.invokevirtual 75, 3) := by decide +kernel
theorem dX9_distance_13 : decode cX9_distance 13 = .ok (.ifCond .ne 9, 3) := by decide +kernel
theorem dX9_distance_16 : decode cX9_distance 16 = .ok (.aload_n 0, 1) := by decide +kernel
theorem dX9_distance_17 : decode cX9_distance 17 = .ok (.iconst 1, 1) := by decide +kernel
theorem dX9_distance_18 : decode cX9_distance 18 = .ok (.invokevirtual 63, 3) := by decide +kernel
theorem dX9_distance_21 : decode cX9_distance 21 = .ok (.ireturn, 1) := by decide +kernel
theorem dX9_distance_22 : decode cX9_distance 22 = .ok (.aload_n 0, 1) := by decide +kernel
theorem dX9_distance_23 : decode cX9_distance 23 = .ok (.iload_n 1, 1) := by decide +kernel
theorem dX9_distance_24 : decode cX9_distance 24 = .ok (.iload_n 2, 1) := by decide +kernel
theorem dX9_distance_25 : decode cX9_distance 25 = .ok (.iconst 1, 1) := by decide +kernel
theorem dX9_distance_26 : decode cX9_distance 26 = .ok (.invokevirtual 183, 3) := by decide +kernel
theorem dX9_distance_29 : decode cX9_distance 29 = .ok (.istore_n 3, 1) := by decide +kernel
theorem dX9_distance_30 : decode cX9_distance 30 = .ok (.aload_n 0, 1) := by decide +kernel
theorem dX9_distance_31 : decode cX9_distance 31 = .ok (.iload_n 3, 1) := by decide +kernel
theorem dX9_distance_32 : decode cX9_distance 32 = .ok (.ifCond .ge 7, 3) := by decide +kernel
theorem dX9_distance_35 : decode cX9_distance 35 = .ok (.iconst 2, 1) := by decide +kernel
theorem dX9_distance_36 : decode cX9_distance 36 = .ok (.goto 4, 3) := by decide +kernel
theorem dX9_distance_39 : decode cX9_distance 39 = .ok (.iconst 0, 1) := by decide +kernel
theorem dX9_distance_40 : decode cX9_distance 40 = .ok (.putfield 39, 3) := by decide +kernel
theorem dX9_distance_43 : decode cX9_distance 43 = .ok (.aload_n 0, 1) := by decide +kernel
theorem dX9_distance_44 : decode cX9_distance 44 = .ok (.getfield 39, 3) := by decide +kernel
theorem dX9_distance_47 : decode cX9_distance 47 = .ok (.ifCond .le 7, 3) := by decide +kernel
theorem dX9_distance_50 : decode cX9_distance 50 = .ok (.iconst 0, 1) := by decide +kernel
theorem dX9_distance_51 : decode cX9_distance 51 = .ok (.goto 4, 3) := by decide +kernel
theorem dX9_distance_54 : decode cX9_distance 54 = .ok (.iload_n 3, 1) := by decide +kernel
theorem dX9_distance_55 : decode cX9_distance 55 = .ok (.ireturn, 1) := by decide +kernel
theorem dX9_distanceByRelaxation_0 : decode cX9_distanceByRelaxation 0 = .ok (.aload_n 0, 1) := by decide +kernel
theorem dX9_distanceByRelaxation_1 : decode cX9_distanceByRelaxation 1 = .ok (.iload_n 1, 1) := by decide +kernel
theorem dX9_distanceByRelaxation_2 : decode cX9_distanceByRelaxation 2 = .ok (.iload_n 2, 1) := by decide +kernel
theorem dX9_distanceByRelaxation_3 : decode cX9_distanceByRelaxation 3 = .ok (.invokevirtual 187, 3) := by decide +kernel
theorem dX9_distanceByRelaxation_6 : decode cX9_distanceByRelaxation 6 = .ok (.ireturn, 1) := by decide +kernel
theorem dX9_changes_0 : decode cX9_changes 0 = .ok (.aload_n 0, 1) := by decide +kernel
theorem dX9_changes_1 : decode cX9_changes 1 = .ok (.iload_n 1, 1) := by decide +kernel
theorem dX9_changes_2 : decode cX9_changes 2 = .ok (.invokevirtual 75, 3) := by decide +kernel
theorem dX9_changes_5 : decode cX9_changes 5 = .ok (.ifCond .eq 11, 3) := by decide +kernel
theorem dX9_changes_8 : decode cX9_changes 8 = .ok (.aload_n 0, 1) := by decide +kernel
theorem dX9_changes_9 : decode cX9_changes 9 = .ok (.iload_n 2, 1) := by decide +kernel
theorem dX9_changes_10 : decode cX9_changes 10 = .ok (.invokevirtual 75, 3) := by decide +kernel
theorem dX9_changes_13 : decode cX9_changes 13 = .ok (.ifCond .ne 9, 3) := by decide +kernel
theorem dX9_changes_16 : decode cX9_changes 16 = .ok (.aload_n 0, 1) := by decide +kernel
theorem dX9_changes_17 : decode cX9_changes 17 = .ok (.iconst 1, 1) := by decide +kernel
theorem dX9_changes_18 : decode cX9_changes 18 = .ok (.invokevirtual 63, 3) := by decide +kernel
theorem dX9_changes_21 : decode cX9_changes 21 = .ok (.ireturn, 1) := by decide +kernel
theorem dX9_changes_22 : decode cX9_changes 22 = .ok (.aload_n 0, 1) := by decide +kernel
theorem dX9_changes_23 : decode cX9_changes 23 = .ok (.iload_n 1, 1) := by decide +kernel
theorem dX9_changes_24 : decode cX9_changes 24 = .ok (.iload_n 2, 1) := by decide +kernel
theorem dX9_changes_25 : decode cX9_changes 25 = .ok (.iconst 0, 1) := by decide +kernel
theorem dX9_changes_26 : decode cX9_changes 26 = .ok (.invokevirtual 183, 3) := by decide +kernel
theorem dX9_changes_29 : decode cX9_changes 29 = .ok (.istore_n 3, 1) := by decide +kernel
theorem dX9_changes_30 : decode cX9_changes 30 = .ok (.aload_n 0, 1) := by decide +kernel
theorem dX9_changes_31 : decode cX9_changes 31 = .ok (.iload_n 3, 1) := by decide +kernel
theorem dX9_changes_32 : decode cX9_changes 32 = .ok (.ifCond .ge 7, 3) := by decide +kernel
theorem dX9_changes_35 : decode cX9_changes 35 = .ok (.iconst 2, 1) := by decide +kernel
theorem dX9_changes_36 : decode cX9_changes 36 = .ok (.goto 4, 3) := by decide +kernel
theorem dX9_changes_39 : decode cX9_changes 39 = .ok (.iconst 0, 1) := by decide +kernel
theorem dX9_changes_40 : decode cX9_changes 40 = .ok (.putfield 39, 3) := by decide +kernel
theorem dX9_changes_43 : decode cX9_changes 43 = .ok (.aload_n 0, 1) := by decide +kernel
theorem dX9_changes_44 : decode cX9_changes 44 = .ok (.getfield 39, 3) := by decide +kernel
theorem dX9_changes_47 : decode cX9_changes 47 = .ok (.ifCond .le 7, 3) := by decide +kernel
theorem dX9_changes_50 : decode cX9_changes 50 = .ok (.iconst 0, 1) := by decide +kernel
theorem dX9_changes_51 : decode cX9_changes 51 = .ok (.goto 10, 3) := by decide +kernel
theorem dX9_changes_54 : decode cX9_changes 54 = .ok (.iconst 0, 1) := by decide +kernel
theorem dX9_changes_55 : decode cX9_changes 55 = .ok (.iload_n 3, 1) := by decide +kernel
theorem dX9_changes_56 : decode cX9_changes 56 = .ok (.iconst 1, 1) := by decide +kernel
theorem dX9_changes_57 : decode cX9_changes 57 = .ok (.isub, 1) := by decide +kernel
theorem dX9_changes_58 : decode cX9_changes 58 = .ok (.invokestatic 190, 3) := by decide +kernel
theorem dX9_changes_61 : decode cX9_changes 61 = .ok (.ireturn, 1) := by decide +kernel
theorem dX9_changesByGrowth_0 : decode cX9_changesByGrowth 0 = .ok (.aload_n 0, 1) := by decide +kernel
theorem dX9_changesByGrowth_1 : decode cX9_changesByGrowth 1 = .ok (.iload_n 1, 1) := by decide +kernel
theorem dX9_changesByGrowth_2 : decode cX9_changesByGrowth 2 = .ok (.iload_n 2, 1) := by decide +kernel
theorem dX9_changesByGrowth_3 : decode cX9_changesByGrowth 3 = .ok (.invokevirtual 193, 3) := by decide +kernel
theorem dX9_changesByGrowth_6 : decode cX9_changesByGrowth 6 = .ok (.ireturn, 1) := by decide +kernel
theorem dX9_says_0 : decode cX9_says 0 = .ok (.aload_n 0, 1) := by decide +kernel
theorem dX9_says_1 : decode cX9_says 1 = .ok (.getfield 22, 3) := by decide +kernel
theorem dX9_says_4 : decode cX9_says 4 = .ok (.aload_n 0, 1) := by decide +kernel
theorem dX9_says_5 : decode cX9_says 5 = .ok (.getfield 196, 3) := by decide +kernel
theorem dX9_says_8 : decode cX9_says 8 = .ok (.iload_n 1, 1) := by decide +kernel
theorem dX9_says_9 : decode cX9_says 9 = .ok (.castore, 1) := by decide +kernel
theorem dX9_says_10 : decode cX9_says 10 = .ok (.aload_n 0, 1) := by decide +kernel
theorem dX9_says_11 : decode cX9_says 11 = .ok (.dup, 1) := by decide +kernel
theorem dX9_says_12 : decode cX9_says 12 = .ok (.getfield 196, 3) := by decide +kernel
theorem dX9_says_15 : decode cX9_says 15 = .ok (.iconst 1, 1) := by decide +kernel
theorem dX9_says_16 : decode cX9_says 16 = .ok (.iadd, 1) := by decide +kernel
theorem dX9_says_17 : decode cX9_says 17 = .ok (.putfield 196, 3) := by decide +kernel
theorem dX9_says_20 : decode cX9_says 20 = .ok (.return_, 1) := by decide +kernel
theorem dX9_saysNumber_0 : decode cX9_saysNumber 0 = .ok (.iload_n 1, 1) := by decide +kernel
theorem dX9_saysNumber_1 : decode cX9_saysNumber 1 = .ok (.bipush 9, 2) := by decide +kernel
theorem dX9_saysNumber_3 : decode cX9_saysNumber 3 = .ok (.if_icmp .le 11, 3) := by decide +kernel
theorem dX9_saysNumber_6 : decode cX9_saysNumber 6 = .ok (.aload_n 0, 1) := by decide +kernel
theorem dX9_saysNumber_7 : decode cX9_saysNumber 7 = .ok (.iload_n 1, 1) := by decide +kernel
theorem dX9_saysNumber_8 : decode cX9_saysNumber 8 = .ok (.bipush 10, 2) := by decide +kernel
theorem dX9_saysNumber_10 : decode cX9_saysNumber 10 = .ok (.idiv, 1) := by decide +kernel
theorem dX9_saysNumber_11 : decode cX9_saysNumber 11 = .ok (.invokevirtual 199, 3) := by decide +kernel
theorem dX9_saysNumber_14 : decode cX9_saysNumber 14 = .ok (.aload_n 0, 1) := by decide +kernel
theorem dX9_saysNumber_15 : decode cX9_saysNumber 15 = .ok (.bipush 48, 2) := by decide +kernel
theorem dX9_saysNumber_17 : decode cX9_saysNumber 17 = .ok (.iload_n 1, 1) := by decide +kernel
theorem dX9_saysNumber_18 : decode cX9_saysNumber 18 = .ok (.bipush 10, 2) := by decide +kernel
theorem dX9_saysNumber_20 : decode cX9_saysNumber 20 = .ok (.irem, 1) := by decide +kernel
theorem dX9_saysNumber_21 : decode cX9_saysNumber 21 = .ok (.iadd, 1) := by decide +kernel
theorem dX9_saysNumber_22 : decode cX9_saysNumber 22 = .ok (.i2c, 1) := by decide +kernel
theorem dX9_saysNumber_23 : decode cX9_saysNumber 23 = .ok (.invokevirtual 203, 3) := by decide +kernel
theorem dX9_saysNumber_26 : decode cX9_saysNumber 26 = .ok (.return_, 1) := by decide +kernel
theorem dX9_writeLine_0 : decode cX9_writeLine 0 = .ok (.aload_n 0, 1) := by decide +kernel
theorem dX9_writeLine_1 : decode cX9_writeLine 1 = .ok (.aload_n 0, 1) := by decide +kernel
theorem dX9_writeLine_2 : decode cX9_writeLine 2 = .ok (.iload_n 1, 1) := by decide +kernel
theorem dX9_writeLine_3 : decode cX9_writeLine 3 = .ok (.invokevirtual 82, 3) := by decide +kernel
theorem dX9_writeLine_6 : decode cX9_writeLine 6 = .ok (.invokevirtual 91, 3) := by decide +kernel
theorem dX9_writeLine_9 : decode cX9_writeLine 9 = .ok (.ifCond .ne 5, 3) := by decide +kernel
theorem dX9_writeLine_12 : decode cX9_writeLine 12 = .ok (.iconst 0, 1) := by decide +kernel
theorem dX9_writeLine_13 : decode cX9_writeLine 13 = .ok (.ireturn, 1) := by decide +kernel
theorem dX9_writeLine_14 : decode cX9_writeLine 14 = .ok (.aload_n 0, 1) := by decide +kernel
theorem dX9_writeLine_15 : decode cX9_writeLine 15 = .ok (.iconst 0, 1) := by decide +kernel
theorem dX9_writeLine_16 : decode cX9_writeLine 16 = .ok (.putfield 196, 3) := by decide +kernel
theorem dX9_writeLine_19 : decode cX9_writeLine 19 = .ok (.iconst 0, 1) := by decide +kernel
theorem dX9_writeLine_20 : decode cX9_writeLine 20 = .ok (.istore_n 2, 1) := by decide +kernel
theorem dX9_writeLine_21 : decode cX9_writeLine 21 = .ok (.iload_n 2, 1) := by decide +kernel
theorem dX9_writeLine_22 : decode cX9_writeLine 22 = .ok (.aload_n 0, 1) := by decide +kernel
theorem dX9_writeLine_23 : decode cX9_writeLine 23 = .ok (.iload_n 1, 1) := by decide +kernel
theorem dX9_writeLine_24 : decode cX9_writeLine 24 = .ok (.invokevirtual 55, 3) := by decide +kernel
theorem dX9_writeLine_27 : decode cX9_writeLine 27 = .ok (.if_icmp .ge 29, 3) := by decide +kernel
theorem dX9_writeLine_30 : decode cX9_writeLine 30 = .ok (.iload_n 2, 1) := by decide +kernel
theorem dX9_writeLine_31 : decode cX9_writeLine 31 = .ok (.ifCond .le 9, 3) := by decide +kernel
theorem dX9_writeLine_34 : decode cX9_writeLine 34 = .ok (.aload_n 0, 1) := by decide +kernel
theorem dX9_writeLine_35 : decode cX9_writeLine 35 = .ok (.bipush 45, 2) := by decide +kernel
theorem dX9_writeLine_37 : decode cX9_writeLine 37 = .ok (.invokevirtual 203, 3) := by decide +kernel
theorem dX9_writeLine_40 : decode cX9_writeLine 40 = .ok (.aload_n 0, 1) := by decide +kernel
theorem dX9_writeLine_41 : decode cX9_writeLine 41 = .ok (.aload_n 0, 1) := by decide +kernel
theorem dX9_writeLine_42 : decode cX9_writeLine 42 = .ok (.iload_n 1, 1) := by decide +kernel
theorem dX9_writeLine_43 : decode cX9_writeLine 43 = .ok (.iload_n 2, 1) := by decide +kernel
theorem dX9_writeLine_44 : decode cX9_writeLine 44 = .ok (.invokevirtual 59, 3) := by decide +kernel
theorem dX9_writeLine_47 : decode cX9_writeLine 47 = .ok (.invokevirtual 199, 3) := by decide +kernel
theorem dX9_writeLine_50 : decode cX9_writeLine 50 = .ok (.iinc 2 1, 3) := by decide +kernel
theorem dX9_writeLine_53 : decode cX9_writeLine 53 = .ok (.goto (-32), 3) := by decide +kernel
theorem dX9_writeLine_56 : decode cX9_writeLine 56 = .ok (.aload_n 0, 1) := by decide +kernel
theorem dX9_writeLine_57 : decode cX9_writeLine 57 = .ok (.getfield 196, 3) := by decide +kernel
theorem dX9_writeLine_60 : decode cX9_writeLine 60 = .ok (.ireturn, 1) := by decide +kernel
theorem dX9_writePassenger_0 : decode cX9_writePassenger 0 = .ok (.aload_n 0, 1) := by decide +kernel
theorem dX9_writePassenger_1 : decode cX9_writePassenger 1 = .ok (.aload_n 0, 1) := by decide +kernel
theorem dX9_writePassenger_2 : decode cX9_writePassenger 2 = .ok (.iload_n 1, 1) := by decide +kernel
theorem dX9_writePassenger_3 : decode cX9_writePassenger 3 = .ok (.invokevirtual 133, 3) := by decide +kernel
theorem dX9_writePassenger_6 : decode cX9_writePassenger 6 = .ok (.invokevirtual 91, 3) := by decide +kernel
theorem dX9_writePassenger_9 : decode cX9_writePassenger 9 = .ok (.ifCond .ne 5, 3) := by decide +kernel
theorem dX9_writePassenger_12 : decode cX9_writePassenger 12 = .ok (.iconst 0, 1) := by decide +kernel
theorem dX9_writePassenger_13 : decode cX9_writePassenger 13 = .ok (.ireturn, 1) := by decide +kernel
theorem dX9_writePassenger_14 : decode cX9_writePassenger 14 = .ok (.aload_n 0, 1) := by decide +kernel
theorem dX9_writePassenger_15 : decode cX9_writePassenger 15 = .ok (.iconst 0, 1) := by decide +kernel
theorem dX9_writePassenger_16 : decode cX9_writePassenger 16 = .ok (.putfield 196, 3) := by decide +kernel
theorem dX9_writePassenger_19 : decode cX9_writePassenger 19 = .ok (.aload_n 0, 1) := by decide +kernel
theorem dX9_writePassenger_20 : decode cX9_writePassenger 20 = .ok (.iload_n 1, 1) := by decide +kernel
theorem dX9_writePassenger_21 : decode cX9_writePassenger 21 = .ok (.iconst 1, 1) := by decide +kernel
theorem dX9_writePassenger_22 : decode cX9_writePassenger 22 = .ok (.invokevirtual 117, 3) := by decide +kernel
theorem dX9_writePassenger_25 : decode cX9_writePassenger 25 = .ok (.istore_n 2, 1) := by decide +kernel
theorem dX9_writePassenger_26 : decode cX9_writePassenger 26 = .ok (.aload_n 0, 1) := by decide +kernel
theorem dX9_writePassenger_27 : decode cX9_writePassenger 27 = .ok (.iload_n 1, 1) := by decide +kernel
theorem dX9_writePassenger_28 : decode cX9_writePassenger 28 = .ok (.invokevirtual 199, 3) := by decide +kernel
theorem dX9_writePassenger_31 : decode cX9_writePassenger 31 = .ok (.aload_n 0, 1) := by decide +kernel
theorem dX9_writePassenger_32 : decode cX9_writePassenger 32 = .ok (.iload_n 2, 1) := by decide +kernel
theorem dX9_writePassenger_33 : decode cX9_writePassenger 33 = .ok (.ifCond .ge 8, 3) := by decide +kernel
theorem dX9_writePassenger_36 : decode cX9_writePassenger 36 = .ok (.bipush 64, 2) := by decide +kernel
theorem dX9_writePassenger_38 : decode cX9_writePassenger 38 = .ok (.goto 5, 3) := by decide +kernel
theorem dX9_writePassenger_41 : decode cX9_writePassenger 41 = .ok (.bipush 62, 2) := by decide +kernel
theorem dX9_writePassenger_43 : decode cX9_writePassenger 43 = .ok (.invokevirtual 203, 3) := by decide +kernel
theorem dX9_writePassenger_46 : decode cX9_writePassenger 46 = .ok (.aload_n 0, 1) := by decide +kernel
theorem dX9_writePassenger_47 : decode cX9_writePassenger 47 = .ok (.iload_n 2, 1) := by decide +kernel
theorem dX9_writePassenger_48 : decode cX9_writePassenger 48 = .ok (.ifCond .ge 12, 3) := by decide +kernel
theorem dX9_writePassenger_51 : decode cX9_writePassenger 51 = .ok (.aload_n 0, 1) := by decide +kernel
theorem dX9_writePassenger_52 : decode cX9_writePassenger 52 = .ok (.iload_n 1, 1) := by decide +kernel
theorem dX9_writePassenger_53 : decode cX9_writePassenger 53 = .ok (.iconst 0, 1) := by decide +kernel
theorem dX9_writePassenger_54 : decode cX9_writePassenger 54 = .ok (.invokevirtual 117, 3) := by decide +kernel
theorem dX9_writePassenger_57 : decode cX9_writePassenger 57 = .ok (.goto 4, 3) := by decide +kernel
theorem dX9_writePassenger_60 : decode cX9_writePassenger 60 = .ok (.iload_n 2, 1) := by decide +kernel
theorem dX9_writePassenger_61 : decode cX9_writePassenger 61 = .ok (.invokevirtual 199, 3) := by decide +kernel
theorem dX9_writePassenger_64 : decode cX9_writePassenger 64 = .ok (.aload_n 0, 1) := by decide +kernel
theorem dX9_writePassenger_65 : decode cX9_writePassenger 65 = .ok (.bipush 114, 2) := by decide +kernel
theorem dX9_writePassenger_67 : decode cX9_writePassenger 67 = .ok (.invokevirtual 203, 3) := by decide +kernel
theorem dX9_writePassenger_70 : decode cX9_writePassenger 70 = .ok (.aload_n 0, 1) := by decide +kernel
theorem dX9_writePassenger_71 : decode cX9_writePassenger 71 = .ok (.aload_n 0, 1) := by decide +kernel
theorem dX9_writePassenger_72 : decode cX9_writePassenger 72 = .ok (.iload_n 1, 1) := by decide +kernel
theorem dX9_writePassenger_73 : decode cX9_writePassenger 73 = .ok (.iconst 3, 1) := by decide +kernel
theorem dX9_writePassenger_74 : decode cX9_writePassenger 74 = .ok (.invokevirtual 117, 3) := by decide +kernel
theorem dX9_writePassenger_77 : decode cX9_writePassenger 77 = .ok (.invokevirtual 199, 3) := by decide +kernel
theorem dX9_writePassenger_80 : decode cX9_writePassenger 80 = .ok (.iconst 0, 1) := by decide +kernel
theorem dX9_writePassenger_81 : decode cX9_writePassenger 81 = .ok (.istore_n 3, 1) := by decide +kernel
theorem dX9_writePassenger_82 : decode cX9_writePassenger 82 = .ok (.iload_n 3, 1) := by decide +kernel
theorem dX9_writePassenger_83 : decode cX9_writePassenger 83 = .ok (.aload_n 0, 1) := by decide +kernel
theorem dX9_writePassenger_84 : decode cX9_writePassenger 84 = .ok (.getfield 9, 3) := by decide +kernel
theorem dX9_writePassenger_87 : decode cX9_writePassenger 87 = .ok (.iconst 4, 1) := by decide +kernel
theorem dX9_writePassenger_88 : decode cX9_writePassenger 88 = .ok (.iaload, 1) := by decide +kernel
theorem dX9_writePassenger_89 : decode cX9_writePassenger 89 = .ok (.if_icmp .ge 29, 3) := by decide +kernel
theorem dX9_writePassenger_92 : decode cX9_writePassenger 92 = .ok (.aload_n 0, 1) := by decide +kernel
theorem dX9_writePassenger_93 : decode cX9_writePassenger 93 = .ok (.iload_n 3, 1) := by decide +kernel
theorem dX9_writePassenger_94 : decode cX9_writePassenger 94 = .ok (.invokevirtual 159, 3) := by decide +kernel
theorem dX9_writePassenger_97 : decode cX9_writePassenger 97 = .ok (.iload_n 1, 1) := by decide +kernel
theorem dX9_writePassenger_98 : decode cX9_writePassenger 98 = .ok (.if_icmp .ne 14, 3) := by decide +kernel
theorem dX9_writePassenger_101 : decode cX9_writePassenger 101 = .ok (.aload_n 0, 1) := by decide +kernel
theorem dX9_writePassenger_102 : decode cX9_writePassenger 102 = .ok (.bipush 115, 2) := by decide +kernel
theorem dX9_writePassenger_104 : decode cX9_writePassenger 104 = .ok (.invokevirtual 203, 3) := by decide +kernel
theorem dX9_writePassenger_107 : decode cX9_writePassenger 107 = .ok (.aload_n 0, 1) := by decide +kernel
theorem dX9_writePassenger_108 : decode cX9_writePassenger 108 = .ok (.iload_n 3, 1) := by decide +kernel
theorem dX9_writePassenger_109 : decode cX9_writePassenger 109 = .ok (.invokevirtual 199, 3) := by decide +kernel
theorem dX9_writePassenger_112 : decode cX9_writePassenger 112 = .ok (.iinc 3 1, 3) := by decide +kernel
theorem dX9_writePassenger_115 : decode cX9_writePassenger 115 = .ok (.goto (-33), 3) := by decide +kernel
theorem dX9_writePassenger_118 : decode cX9_writePassenger 118 = .ok (.aload_n 0, 1) := by decide +kernel
theorem dX9_writePassenger_119 : decode cX9_writePassenger 119 = .ok (.getfield 196, 3) := by decide +kernel
theorem dX9_writePassenger_122 : decode cX9_writePassenger 122 = .ok (.ireturn, 1) := by decide +kernel
theorem dX9_textAt_0 : decode cX9_textAt 0 = .ok (.aload_n 0, 1) := by decide +kernel
theorem dX9_textAt_1 : decode cX9_textAt 1 = .ok (.iload_n 1, 1) := by decide +kernel
theorem dX9_textAt_2 : decode cX9_textAt 2 = .ok (.iconst 0, 1) := by decide +kernel
theorem dX9_textAt_3 : decode cX9_textAt 3 = .ok (.aload_n 0, 1) := by decide +kernel
theorem dX9_textAt_4 : decode cX9_textAt 4 = .ok (.getfield 196, 3) := by decide +kernel
theorem dX9_textAt_7 : decode cX9_textAt 7 = .ok (.iconst 1, 1) := by decide +kernel
theorem dX9_textAt_8 : decode cX9_textAt 8 = .ok (.isub, 1) := by decide +kernel
theorem dX9_textAt_9 : decode cX9_textAt 9 = .ok (.invokestatic 51, 3) := by decide +kernel
theorem dX9_textAt_12 : decode cX9_textAt 12 = .ok (.invokevirtual 91, 3) := by decide +kernel
theorem dX9_textAt_15 : decode cX9_textAt 15 = .ok (.ifCond .eq 12, 3) := by decide +kernel
theorem dX9_textAt_18 : decode cX9_textAt 18 = .ok (.aload_n 0, 1) := by decide +kernel
theorem dX9_textAt_19 : decode cX9_textAt 19 = .ok (.getfield 22, 3) := by decide +kernel
theorem dX9_textAt_22 : decode cX9_textAt 22 = .ok (.iload_n 1, 1) := by decide +kernel
theorem dX9_textAt_23 : decode cX9_textAt 23 = .ok (.caload, 1) := by decide +kernel
theorem dX9_textAt_24 : decode cX9_textAt 24 = .ok (.goto 5, 3) := by decide +kernel
theorem dX9_textAt_27 : decode cX9_textAt 27 = .ok (.bipush 32, 2) := by decide +kernel
theorem dX9_textAt_29 : decode cX9_textAt 29 = .ok (.ireturn, 1) := by decide +kernel
theorem dX9_meanRides_0 : decode cX9_meanRides 0 = .ok (.aload_n 0, 1) := by decide +kernel
theorem dX9_meanRides_1 : decode cX9_meanRides 1 = .ok (.getfield 9, 3) := by decide +kernel
theorem dX9_meanRides_4 : decode cX9_meanRides 4 = .ok (.iconst 3, 1) := by decide +kernel
theorem dX9_meanRides_5 : decode cX9_meanRides 5 = .ok (.iaload, 1) := by decide +kernel
theorem dX9_meanRides_6 : decode cX9_meanRides 6 = .ok (.istore_n 1, 1) := by decide +kernel
theorem dX9_meanRides_7 : decode cX9_meanRides 7 = .ok (.aload_n 0, 1) := by decide +kernel
theorem dX9_meanRides_8 : decode cX9_meanRides 8 = .ok (.iload_n 1, 1) := by decide +kernel
theorem dX9_meanRides_9 : decode cX9_meanRides 9 = .ok (.ifCond .ne 7, 3) := by decide +kernel
theorem dX9_meanRides_12 : decode cX9_meanRides 12 = .ok (.iconst 1, 1) := by decide +kernel
theorem dX9_meanRides_13 : decode cX9_meanRides 13 = .ok (.goto 4, 3) := by decide +kernel
theorem dX9_meanRides_16 : decode cX9_meanRides 16 = .ok (.iconst 0, 1) := by decide +kernel
theorem dX9_meanRides_17 : decode cX9_meanRides 17 = .ok (.putfield 39, 3) := by decide +kernel
theorem dX9_meanRides_20 : decode cX9_meanRides 20 = .ok (.iconst 0, 1) := by decide +kernel
theorem dX9_meanRides_21 : decode cX9_meanRides 21 = .ok (.istore_n 2, 1) := by decide +kernel
theorem dX9_meanRides_22 : decode cX9_meanRides 22 = .ok (.iconst 0, 1) := by decide +kernel
theorem dX9_meanRides_23 : decode cX9_meanRides 23 = .ok (.istore_n 3, 1) := by decide +kernel
theorem dX9_meanRides_24 : decode cX9_meanRides 24 = .ok (.iload_n 3, 1) := by decide +kernel
theorem dX9_meanRides_25 : decode cX9_meanRides 25 = .ok (.iload_n 1, 1) := by decide +kernel
theorem dX9_meanRides_26 : decode cX9_meanRides 26 = .ok (.if_icmp .ge 18, 3) := by decide +kernel
theorem dX9_meanRides_29 : decode cX9_meanRides 29 = .ok (.iload_n 2, 1) := by decide +kernel
theorem dX9_meanRides_30 : decode cX9_meanRides 30 = .ok (.aload_n 0, 1) := by decide +kernel
theorem dX9_meanRides_31 : decode cX9_meanRides 31 = .ok (.iload_n 3, 1) := by decide +kernel
theorem dX9_meanRides_32 : decode cX9_meanRides 32 = .ok (.iconst 3, 1) := by decide +kernel
theorem dX9_meanRides_33 : decode cX9_meanRides 33 = .ok (.invokevirtual 117, 3) := by decide +kernel
theorem dX9_meanRides_36 : decode cX9_meanRides 36 = .ok (.iadd, 1) := by decide +kernel
theorem dX9_meanRides_37 : decode cX9_meanRides 37 = .ok (.istore_n 2, 1) := by decide +kernel
theorem dX9_meanRides_38 : decode cX9_meanRides 38 = .ok (.iinc 3 1, 3) := by decide +kernel
theorem dX9_meanRides_41 : decode cX9_meanRides 41 = .ok (.goto (-17), 3) := by decide +kernel
theorem dX9_meanRides_44 : decode cX9_meanRides 44 = .ok (.aload_n 0, 1) := by decide +kernel
theorem dX9_meanRides_45 : decode cX9_meanRides 45 = .ok (.getfield 39, 3) := by decide +kernel
theorem dX9_meanRides_48 : decode cX9_meanRides 48 = .ok (.ifCond .le 7, 3) := by decide +kernel
theorem dX9_meanRides_51 : decode cX9_meanRides 51 = .ok (.dconst 0, 1) := by decide +kernel
theorem dX9_meanRides_52 : decode cX9_meanRides 52 = .ok (.goto 8, 3) := by decide +kernel
theorem dX9_meanRides_55 : decode cX9_meanRides 55 = .ok (.iload_n 2, 1) := by decide +kernel
theorem dX9_meanRides_56 : decode cX9_meanRides 56 = .ok (.i2d, 1) := by decide +kernel
theorem dX9_meanRides_57 : decode cX9_meanRides 57 = .ok (.iload_n 1, 1) := by decide +kernel
theorem dX9_meanRides_58 : decode cX9_meanRides 58 = .ok (.i2d, 1) := by decide +kernel
theorem dX9_meanRides_59 : decode cX9_meanRides 59 = .ok (.ddiv, 1) := by decide +kernel
theorem dX9_meanRides_60 : decode cX9_meanRides 60 = .ok (.dreturn, 1) := by decide +kernel
theorem dX9_truthShare_0 : decode cX9_truthShare 0 = .ok (.aload_n 0, 1) := by decide +kernel
theorem dX9_truthShare_1 : decode cX9_truthShare 1 = .ok (.getfield 9, 3) := by decide +kernel
theorem dX9_truthShare_4 : decode cX9_truthShare 4 = .ok (.iconst 4, 1) := by decide +kernel
theorem dX9_truthShare_5 : decode cX9_truthShare 5 = .ok (.iaload, 1) := by decide +kernel
theorem dX9_truthShare_6 : decode cX9_truthShare 6 = .ok (.istore_n 1, 1) := by decide +kernel
theorem dX9_truthShare_7 : decode cX9_truthShare 7 = .ok (.aload_n 0, 1) := by decide +kernel
theorem dX9_truthShare_8 : decode cX9_truthShare 8 = .ok (.iload_n 1, 1) := by decide +kernel
theorem dX9_truthShare_9 : decode cX9_truthShare 9 = .ok (.ifCond .ne 7, 3) := by decide +kernel
theorem dX9_truthShare_12 : decode cX9_truthShare 12 = .ok (.iconst 1, 1) := by decide +kernel
theorem dX9_truthShare_13 : decode cX9_truthShare 13 = .ok (.goto 4, 3) := by decide +kernel
theorem dX9_truthShare_16 : decode cX9_truthShare 16 = .ok (.iconst 0, 1) := by decide +kernel
theorem dX9_truthShare_17 : decode cX9_truthShare 17 = .ok (.putfield 39, 3) := by decide +kernel
theorem dX9_truthShare_20 : decode cX9_truthShare 20 = .ok (.iconst 0, 1) := by decide +kernel
theorem dX9_truthShare_21 : decode cX9_truthShare 21 = .ok (.istore_n 2, 1) := by decide +kernel
theorem dX9_truthShare_22 : decode cX9_truthShare 22 = .ok (.iconst 0, 1) := by decide +kernel
theorem dX9_truthShare_23 : decode cX9_truthShare 23 = .ok (.istore_n 3, 1) := by decide +kernel
theorem dX9_truthShare_24 : decode cX9_truthShare 24 = .ok (.iload_n 3, 1) := by decide +kernel
theorem dX9_truthShare_25 : decode cX9_truthShare 25 = .ok (.iload_n 1, 1) := by decide +kernel
theorem dX9_truthShare_26 : decode cX9_truthShare 26 = .ok (.if_icmp .ge 25, 3) := by decide +kernel
theorem dX9_truthShare_29 : decode cX9_truthShare 29 = .ok (.iload_n 2, 1) := by decide +kernel
theorem dX9_truthShare_30 : decode cX9_truthShare 30 = .ok (.aload_n 0, 1) := by decide +kernel
theorem dX9_truthShare_31 : decode cX9_truthShare 31 = .ok (.iload_n 3, 1) := by decide +kernel
theorem dX9_truthShare_32 : decode cX9_truthShare 32 = .ok (.invokevirtual 159, 3) := by decide +kernel
theorem dX9_truthShare_35 : decode cX9_truthShare 35 = .ok (.ifCond .ge 7, 3) := by decide +kernel
theorem dX9_truthShare_38 : decode cX9_truthShare 38 = .ok (.iconst 1, 1) := by decide +kernel
theorem dX9_truthShare_39 : decode cX9_truthShare 39 = .ok (.goto 4, 3) := by decide +kernel
theorem dX9_truthShare_42 : decode cX9_truthShare 42 = .ok (.iconst 0, 1) := by decide +kernel
theorem dX9_truthShare_43 : decode cX9_truthShare 43 = .ok (.iadd, 1) := by decide +kernel
theorem dX9_truthShare_44 : decode cX9_truthShare 44 = .ok (.istore_n 2, 1) := by decide +kernel
theorem dX9_truthShare_45 : decode cX9_truthShare 45 = .ok (.iinc 3 1, 3) := by decide +kernel
theorem dX9_truthShare_48 : decode cX9_truthShare 48 = .ok (.goto (-24), 3) := by decide +kernel
theorem dX9_truthShare_51 : decode cX9_truthShare 51 = .ok (.aload_n 0, 1) := by decide +kernel
theorem dX9_truthShare_52 : decode cX9_truthShare 52 = .ok (.getfield 39, 3) := by decide +kernel
theorem dX9_truthShare_55 : decode cX9_truthShare 55 = .ok (.ifCond .le 7, 3) := by decide +kernel
theorem dX9_truthShare_58 : decode cX9_truthShare 58 = .ok (.fconst 0, 1) := by decide +kernel
theorem dX9_truthShare_59 : decode cX9_truthShare 59 = .ok (.goto 8, 3) := by decide +kernel
theorem dX9_truthShare_62 : decode cX9_truthShare 62 = .ok (.iload_n 2, 1) := by decide +kernel
theorem dX9_truthShare_63 : decode cX9_truthShare 63 = .ok (.i2f, 1) := by decide +kernel
theorem dX9_truthShare_64 : decode cX9_truthShare 64 = .ok (.iload_n 1, 1) := by decide +kernel
theorem dX9_truthShare_65 : decode cX9_truthShare 65 = .ok (.i2f, 1) := by decide +kernel
theorem dX9_truthShare_66 : decode cX9_truthShare 66 = .ok (.fdiv, 1) := by decide +kernel
theorem dX9_truthShare_67 : decode cX9_truthShare 67 = .ok (.freturn, 1) := by decide +kernel
theorem dX9_isConsistent_0 : decode cX9_isConsistent 0 = .ok (.aload_n 0, 1) := by decide +kernel
theorem dX9_isConsistent_1 : decode cX9_isConsistent 1 = .ok (.iconst 0, 1) := by decide +kernel
theorem dX9_isConsistent_2 : decode cX9_isConsistent 2 = .ok (.putfield 39, 3) := by decide +kernel
theorem dX9_isConsistent_5 : decode cX9_isConsistent 5 = .ok (.iconst 1, 1) := by decide +kernel
theorem dX9_isConsistent_6 : decode cX9_isConsistent 6 = .ok (.ireturn, 1) := by decide +kernel
theorem dX9_type_0 : decode cX9_type 0 = .ok (.aload_n 0, 1) := by decide +kernel
theorem dX9_type_1 : decode cX9_type 1 = .ok (.iload_n 1, 1) := by decide +kernel
theorem dX9_type_2 : decode cX9_type 2 = .ok (.bipush 32, 2) := by decide +kernel
theorem dX9_type_4 : decode cX9_type 4 = .ok (.bipush 126, 2) := by decide +kernel
theorem dX9_type_6 : decode cX9_type 6 = .ok (.invokestatic 51, 3) := by decide +kernel
theorem dX9_type_9 : decode cX9_type 9 = .ok (.ifCond .ne 7, 3) := by decide +kernel
theorem dX9_type_12 : decode cX9_type 12 = .ok (.iconst 1, 1) := by decide +kernel
theorem dX9_type_13 : decode cX9_type 13 = .ok (.goto 17, 3) := by decide +kernel
theorem dX9_type_16 : decode cX9_type 16 = .ok (.aload_n 0, 1) := by decide +kernel
theorem dX9_type_17 : decode cX9_type 17 = .ok (.getfield 207, 3) := by decide +kernel
theorem dX9_type_20 : decode cX9_type 20 = .ok (.bipush 60, 2) := by decide +kernel
theorem dX9_type_22 : decode cX9_type 22 = .ok (.if_icmp .ne 7, 3) := by decide +kernel
theorem dX9_type_25 : decode cX9_type 25 = .ok (.iconst 2, 1) := by decide +kernel
theorem dX9_type_26 : decode cX9_type 26 = .ok (.goto 4, 3) := by decide +kernel
theorem dX9_type_29 : decode cX9_type 29 = .ok (.iconst 0, 1) := by decide +kernel
theorem dX9_type_30 : decode cX9_type 30 = .ok (.putfield 39, 3) := by decide +kernel
theorem dX9_type_33 : decode cX9_type 33 = .ok (.aload_n 0, 1) := by decide +kernel
theorem dX9_type_34 : decode cX9_type 34 = .ok (.getfield 39, 3) := by decide +kernel
theorem dX9_type_37 : decode cX9_type 37 = .ok (.ifCond .le 5, 3) := by decide +kernel
theorem dX9_type_40 : decode cX9_type 40 = .ok (.iconst 0, 1) := by decide +kernel
theorem dX9_type_41 : decode cX9_type 41 = .ok (.ireturn, 1) := by decide +kernel
theorem dX9_type_42 : decode cX9_type 42 = .ok (.aload_n 0, 1) := by decide +kernel
theorem dX9_type_43 : decode cX9_type 43 = .ok (.getfield 26, 3) := by decide +kernel
theorem dX9_type_46 : decode cX9_type 46 = .ok (.aload_n 0, 1) := by decide +kernel
theorem dX9_type_47 : decode cX9_type 47 = .ok (.getfield 207, 3) := by decide +kernel
theorem dX9_type_50 : decode cX9_type 50 = .ok (.iload_n 1, 1) := by decide +kernel
theorem dX9_type_51 : decode cX9_type 51 = .ok (.castore, 1) := by decide +kernel
theorem dX9_type_52 : decode cX9_type 52 = .ok (.aload_n 0, 1) := by decide +kernel
theorem dX9_type_53 : decode cX9_type 53 = .ok (.dup, 1) := by decide +kernel
theorem dX9_type_54 : decode cX9_type 54 = .ok (.getfield 207, 3) := by decide +kernel
theorem dX9_type_57 : decode cX9_type 57 = .ok (.iconst 1, 1) := by decide +kernel
theorem dX9_type_58 : decode cX9_type 58 = .ok (.iadd, 1) := by decide +kernel
theorem dX9_type_59 : decode cX9_type 59 = .ok (.putfield 207, 3) := by decide +kernel
theorem dX9_type_62 : decode cX9_type 62 = .ok (.aload_n 0, 1) := by decide +kernel
theorem dX9_type_63 : decode cX9_type 63 = .ok (.getfield 207, 3) := by decide +kernel
theorem dX9_type_66 : decode cX9_type 66 = .ok (.ireturn, 1) := by decide +kernel
theorem dX9_behind_0 : decode cX9_behind 0 = .ok (.aload_n 0, 1) := by decide +kernel
theorem dX9_behind_1 : decode cX9_behind 1 = .ok (.getfield 210, 3) := by decide +kernel
theorem dX9_behind_4 : decode cX9_behind 4 = .ok (.iload_n 1, 1) := by decide +kernel
theorem dX9_behind_5 : decode cX9_behind 5 = .ok (.iadd, 1) := by decide +kernel
theorem dX9_behind_6 : decode cX9_behind 6 = .ok (.aload_n 0, 1) := by decide +kernel
theorem dX9_behind_7 : decode cX9_behind 7 = .ok (.getfield 207, 3) := by decide +kernel
theorem dX9_behind_10 : decode cX9_behind 10 = .ok (.if_icmp .ge 17, 3) := by decide +kernel
theorem dX9_behind_13 : decode cX9_behind 13 = .ok (.aload_n 0, 1) := by decide +kernel
theorem dX9_behind_14 : decode cX9_behind 14 = .ok (.getfield 26, 3) := by decide +kernel
theorem dX9_behind_17 : decode cX9_behind 17 = .ok (.aload_n 0, 1) := by decide +kernel
theorem dX9_behind_18 : decode cX9_behind 18 = .ok (.getfield 210, 3) := by decide +kernel
theorem dX9_behind_21 : decode cX9_behind 21 = .ok (.iload_n 1, 1) := by decide +kernel
theorem dX9_behind_22 : decode cX9_behind 22 = .ok (.iadd, 1) := by decide +kernel
theorem dX9_behind_23 : decode cX9_behind 23 = .ok (.caload, 1) := by decide +kernel
theorem dX9_behind_24 : decode cX9_behind 24 = .ok (.goto 4, 3) := by decide +kernel
theorem dX9_behind_27 : decode cX9_behind 27 = .ok (.iconst 0, 1) := by decide +kernel
theorem dX9_behind_28 : decode cX9_behind 28 = .ok (.ireturn, 1) := by decide +kernel
theorem dX9_skip_0 : decode cX9_skip 0 = .ok (.iconst 0, 1) := by decide +kernel
theorem dX9_skip_1 : decode cX9_skip 1 = .ok (.istore_n 2, 1) := by decide +kernel
theorem dX9_skip_2 : decode cX9_skip 2 = .ok (.iload_n 2, 1) := by decide +kernel
theorem dX9_skip_3 : decode cX9_skip 3 = .ok (.aload_n 1, 1) := by decide +kernel
theorem dX9_skip_4 : decode cX9_skip 4 = .ok (.invokevirtual 213, 3) := by decide +kernel
theorem dX9_skip_7 : decode cX9_skip 7 = .ok (.if_icmp .ge 59, 3) := by decide +kernel
theorem dX9_skip_10 : decode cX9_skip 10 = .ok (.aload_n 0, 1) := by decide +kernel
theorem dX9_skip_11 : decode cX9_skip 11 = .ok (.getfield 217, 3) := by decide +kernel
theorem dX9_skip_14 : decode cX9_skip 14 = .ok (.ifCond .ne 52, 3) := by decide +kernel
theorem dX9_skip_17 : decode cX9_skip 17 = .ok (.aload_n 0, 1) := by decide +kernel
theorem dX9_skip_18 : decode cX9_skip 18 = .ok (.aload_n 0, 1) := by decide +kernel
theorem dX9_skip_19 : decode cX9_skip 19 = .ok (.iconst 0, 1) := by decide +kernel
theorem dX9_skip_20 : decode cX9_skip 20 = .ok (.invokevirtual 221, 3) := by decide +kernel
theorem dX9_skip_23 : decode cX9_skip 23 = .ok (.aload_n 1, 1) := by decide +kernel
theorem dX9_skip_24 : decode cX9_skip 24 = .ok (.iload_n 2, 1) := by decide +kernel
theorem dX9_skip_25 : decode cX9_skip 25 = .ok (.invokevirtual 225, 3) := by decide +kernel
theorem dX9_skip_28 : decode cX9_skip 28 = .ok (.if_icmp .eq 7, 3) := by decide +kernel
theorem dX9_skip_31 : decode cX9_skip 31 = .ok (.iconst 1, 1) := by decide +kernel
theorem dX9_skip_32 : decode cX9_skip 32 = .ok (.goto 4, 3) := by decide +kernel
theorem dX9_skip_35 : decode cX9_skip 35 = .ok (.iconst 0, 1) := by decide +kernel
theorem dX9_skip_36 : decode cX9_skip 36 = .ok (.putfield 217, 3) := by decide +kernel
theorem dX9_skip_39 : decode cX9_skip 39 = .ok (.aload_n 0, 1) := by decide +kernel
theorem dX9_skip_40 : decode cX9_skip 40 = .ok (.dup, 1) := by decide +kernel
theorem dX9_skip_41 : decode cX9_skip 41 = .ok (.getfield 210, 3) := by decide +kernel
theorem dX9_skip_44 : decode cX9_skip 44 = .ok (.aload_n 0, 1) := by decide +kernel
theorem dX9_skip_45 : decode cX9_skip 45 = .ok (.getfield 217, 3) := by decide +kernel
theorem dX9_skip_48 : decode cX9_skip 48 = .ok (.ifCond .eq 7, 3) := by decide +kernel
theorem dX9_skip_51 : decode cX9_skip 51 = .ok (.iconst 0, 1) := by decide +kernel
theorem dX9_skip_52 : decode cX9_skip 52 = .ok (.goto 4, 3) := by decide +kernel
theorem dX9_skip_55 : decode cX9_skip 55 = .ok (.iconst 1, 1) := by decide +kernel
theorem dX9_skip_56 : decode cX9_skip 56 = .ok (.iadd, 1) := by decide +kernel
theorem dX9_skip_57 : decode cX9_skip 57 = .ok (.putfield 210, 3) := by decide +kernel
theorem dX9_skip_60 : decode cX9_skip 60 = .ok (.iinc 2 1, 3) := by decide +kernel
theorem dX9_skip_63 : decode cX9_skip 63 = .ok (.goto (-61), 3) := by decide +kernel
theorem dX9_skip_66 : decode cX9_skip 66 = .ok (.return_, 1) := by decide +kernel
theorem dX9_digit_0 : decode cX9_digit 0 = .ok (.aload_n 0, 1) := by decide +kernel
theorem dX9_digit_1 : decode cX9_digit 1 = .ok (.ldc 228, 2) := by decide +kernel
theorem dX9_digit_3 : decode cX9_digit 3 = .ok (.invokevirtual 230, 3) := by decide +kernel
theorem dX9_digit_6 : decode cX9_digit 6 = .ok (.aload_n 0, 1) := by decide +kernel
theorem dX9_digit_7 : decode cX9_digit 7 = .ok (.aload_n 0, 1) := by decide +kernel
theorem dX9_digit_8 : decode cX9_digit 8 = .ok (.getfield 217, 3) := by decide +kernel
theorem dX9_digit_11 : decode cX9_digit 11 = .ok (.ifCond .ne 18, 3) := by decide +kernel
theorem dX9_digit_14 : decode cX9_digit 14 = .ok (.aload_n 0, 1) := by decide +kernel
theorem dX9_digit_15 : decode cX9_digit 15 = .ok (.iconst 0, 1) := by decide +kernel
theorem dX9_digit_16 : decode cX9_digit 16 = .ok (.invokevirtual 221, 3) := by decide +kernel
theorem dX9_digit_19 : decode cX9_digit 19 = .ok (.bipush 48, 2) := by decide +kernel
theorem dX9_digit_21 : decode cX9_digit 21 = .ok (.bipush 57, 2) := by decide +kernel
theorem dX9_digit_23 : decode cX9_digit 23 = .ok (.invokestatic 51, 3) := by decide +kernel
theorem dX9_digit_26 : decode cX9_digit 26 = .ok (.ifCond .ne 7, 3) := by decide +kernel
theorem dX9_digit_29 : decode cX9_digit 29 = .ok (.iconst 1, 1) := by decide +kernel
theorem dX9_digit_30 : decode cX9_digit 30 = .ok (.goto 4, 3) := by decide +kernel
theorem dX9_digit_33 : decode cX9_digit 33 = .ok (.iconst 0, 1) := by decide +kernel
theorem dX9_digit_34 : decode cX9_digit 34 = .ok (.putfield 217, 3) := by decide +kernel
theorem dX9_digit_37 : decode cX9_digit 37 = .ok (.aload_n 0, 1) := by decide +kernel
theorem dX9_digit_38 : decode cX9_digit 38 = .ok (.getfield 217, 3) := by decide +kernel
theorem dX9_digit_41 : decode cX9_digit 41 = .ok (.ifCond .eq 5, 3) := by decide +kernel
theorem dX9_digit_44 : decode cX9_digit 44 = .ok (.iconst 0, 1) := by decide +kernel
theorem dX9_digit_45 : decode cX9_digit 45 = .ok (.ireturn, 1) := by decide +kernel
theorem dX9_digit_46 : decode cX9_digit 46 = .ok (.aload_n 0, 1) := by decide +kernel
theorem dX9_digit_47 : decode cX9_digit 47 = .ok (.dup, 1) := by decide +kernel
theorem dX9_digit_48 : decode cX9_digit 48 = .ok (.getfield 210, 3) := by decide +kernel
theorem dX9_digit_51 : decode cX9_digit 51 = .ok (.iconst 1, 1) := by decide +kernel
theorem dX9_digit_52 : decode cX9_digit 52 = .ok (.iadd, 1) := by decide +kernel
theorem dX9_digit_53 : decode cX9_digit 53 = .ok (.putfield 210, 3) := by decide +kernel
theorem dX9_digit_56 : decode cX9_digit 56 = .ok (.aload_n 0, 1) := by decide +kernel
theorem dX9_digit_57 : decode cX9_digit 57 = .ok (.getfield 26, 3) := by decide +kernel
theorem dX9_digit_60 : decode cX9_digit 60 = .ok (.aload_n 0, 1) := by decide +kernel
theorem dX9_digit_61 : decode cX9_digit 61 = .ok (.getfield 210, 3) := by decide +kernel
theorem dX9_digit_64 : decode cX9_digit 64 = .ok (.iconst 1, 1) := by decide +kernel
theorem dX9_digit_65 : decode cX9_digit 65 = .ok (.isub, 1) := by decide +kernel
theorem dX9_digit_66 : decode cX9_digit 66 = .ok (.caload, 1) := by decide +kernel
theorem dX9_digit_67 : decode cX9_digit 67 = .ok (.bipush 48, 2) := by decide +kernel
theorem dX9_digit_69 : decode cX9_digit 69 = .ok (.isub, 1) := by decide +kernel
theorem dX9_digit_70 : decode cX9_digit 70 = .ok (.ireturn, 1) := by decide +kernel
theorem dX9_kind_0 : decode cX9_kind 0 = .ok (.aload_n 0, 1) := by decide +kernel
theorem dX9_kind_1 : decode cX9_kind 1 = .ok (.iconst 0, 1) := by decide +kernel
theorem dX9_kind_2 : decode cX9_kind 2 = .ok (.invokevirtual 221, 3) := by decide +kernel
theorem dX9_kind_5 : decode cX9_kind 5 = .ok (.istore_n 1, 1) := by decide +kernel
theorem dX9_kind_6 : decode cX9_kind 6 = .ok (.iload_n 1, 1) := by decide +kernel
theorem dX9_kind_7 : decode cX9_kind 7 = .ok (.bipush 115, 2) := by decide +kernel
theorem dX9_kind_9 : decode cX9_kind 9 = .ok (.if_icmp .ne 21, 3) := by decide +kernel
theorem dX9_kind_12 : decode cX9_kind 12 = .ok (.aload_n 0, 1) := by decide +kernel
theorem dX9_kind_13 : decode cX9_kind 13 = .ok (.iconst 1, 1) := by decide +kernel
theorem dX9_kind_14 : decode cX9_kind 14 = .ok (.invokevirtual 221, 3) := by decide +kernel
theorem dX9_kind_17 : decode cX9_kind 17 = .ok (.bipush 101, 2) := by decide +kernel
theorem dX9_kind_19 : decode cX9_kind 19 = .ok (.if_icmp .ne 8, 3) := by decide +kernel
theorem dX9_kind_22 : decode cX9_kind 22 = .ok (.bipush 99, 2) := by decide +kernel
theorem dX9_kind_24 : decode cX9_kind 24 = .ok (.goto 5, 3) := by decide +kernel
theorem dX9_kind_27 : decode cX9_kind 27 = .ok (.bipush 115, 2) := by decide +kernel
theorem dX9_kind_29 : decode cX9_kind 29 = .ok (.ireturn, 1) := by decide +kernel
theorem dX9_kind_30 : decode cX9_kind 30 = .ok (.iload_n 1, 1) := by decide +kernel
theorem dX9_kind_31 : decode cX9_kind 31 = .ok (.bipush 116, 2) := by decide +kernel
theorem dX9_kind_33 : decode cX9_kind 33 = .ok (.if_icmp .ne 36, 3) := by decide +kernel
theorem dX9_kind_36 : decode cX9_kind 36 = .ok (.aload_n 0, 1) := by decide +kernel
theorem dX9_kind_37 : decode cX9_kind 37 = .ok (.iconst 1, 1) := by decide +kernel
theorem dX9_kind_38 : decode cX9_kind 38 = .ok (.invokevirtual 221, 3) := by decide +kernel
theorem dX9_kind_41 : decode cX9_kind 41 = .ok (.bipush 114, 2) := by decide +kernel
theorem dX9_kind_43 : decode cX9_kind 43 = .ok (.if_icmp .ne 8, 3) := by decide +kernel
theorem dX9_kind_46 : decode cX9_kind 46 = .ok (.bipush 116, 2) := by decide +kernel
theorem dX9_kind_48 : decode cX9_kind 48 = .ok (.goto 20, 3) := by decide +kernel
theorem dX9_kind_51 : decode cX9_kind 51 = .ok (.aload_n 0, 1) := by decide +kernel
theorem dX9_kind_52 : decode cX9_kind 52 = .ok (.iconst 4, 1) := by decide +kernel
theorem dX9_kind_53 : decode cX9_kind 53 = .ok (.invokevirtual 221, 3) := by decide +kernel
theorem dX9_kind_56 : decode cX9_kind 56 = .ok (.bipush 101, 2) := by decide +kernel
theorem dX9_kind_58 : decode cX9_kind 58 = .ok (.if_icmp .ne 8, 3) := by decide +kernel
theorem dX9_kind_61 : decode cX9_kind 61 = .ok (.bipush 105, 2) := by decide +kernel
theorem dX9_kind_63 : decode cX9_kind 63 = .ok (.goto 5, 3) := by decide +kernel
theorem dX9_kind_66 : decode cX9_kind 66 = .ok (.bipush 107, 2) := by decide +kernel
theorem dX9_kind_68 : decode cX9_kind 68 = .ok (.ireturn, 1) := by decide +kernel
theorem dX9_kind_69 : decode cX9_kind 69 = .ok (.iload_n 1, 1) := by decide +kernel
theorem dX9_kind_70 : decode cX9_kind 70 = .ok (.ireturn, 1) := by decide +kernel
theorem dX9_wordOf_0 : decode cX9_wordOf 0 = .ok (.iload_n 1, 1) := by decide +kernel
theorem dX9_wordOf_1 : decode cX9_wordOf 1 = .ok (.tableswitch 125 97 116 #[122, 119, 98, 125, 104, 125, 125, 125, 110, 125, 113, 101, 125, 125, 125, 125, 125, 116, 95, 107], 95) := by decide +kernel
theorem dX9_wordOf_96 : decode cX9_wordOf 96 = .ok (.ldc 234, 2) := by decide +kernel
theorem dX9_wordOf_98 : decode cX9_wordOf 98 = .ok (.areturn, 1) := by decide +kernel
theorem dX9_wordOf_99 : decode cX9_wordOf 99 = .ok (.ldc 236, 2) := by decide +kernel
theorem dX9_wordOf_101 : decode cX9_wordOf 101 = .ok (.areturn, 1) := by decide +kernel
theorem dX9_wordOf_102 : decode cX9_wordOf 102 = .ok (.ldc 238, 2) := by decide +kernel
theorem dX9_wordOf_104 : decode cX9_wordOf 104 = .ok (.areturn, 1) := by decide +kernel
theorem dX9_wordOf_105 : decode cX9_wordOf 105 = .ok (.ldc 239, 2) := by decide +kernel
theorem dX9_wordOf_107 : decode cX9_wordOf 107 = .ok (.areturn, 1) := by decide +kernel
theorem dX9_wordOf_108 : decode cX9_wordOf 108 = .ok (.ldc 241, 2) := by decide +kernel
theorem dX9_wordOf_110 : decode cX9_wordOf 110 = .ok (.areturn, 1) := by decide +kernel
theorem dX9_wordOf_111 : decode cX9_wordOf 111 = .ok (.ldc 243, 2) := by decide +kernel
theorem dX9_wordOf_113 : decode cX9_wordOf 113 = .ok (.areturn, 1) := by decide +kernel
theorem dX9_wordOf_114 : decode cX9_wordOf 114 = .ok (.ldc 245, 2) := by decide +kernel
theorem dX9_wordOf_116 : decode cX9_wordOf 116 = .ok (.areturn, 1) := by decide +kernel
theorem dX9_wordOf_117 : decode cX9_wordOf 117 = .ok (.ldc 247, 2) := by decide +kernel
theorem dX9_wordOf_119 : decode cX9_wordOf 119 = .ok (.areturn, 1) := by decide +kernel
theorem dX9_wordOf_120 : decode cX9_wordOf 120 = .ok (.ldc 249, 2) := by decide +kernel
theorem dX9_wordOf_122 : decode cX9_wordOf 122 = .ok (.areturn, 1) := by decide +kernel
theorem dX9_wordOf_123 : decode cX9_wordOf 123 = .ok (.ldc 251, 2) := by decide +kernel
theorem dX9_wordOf_125 : decode cX9_wordOf 125 = .ok (.areturn, 1) := by decide +kernel
theorem dX9_wordOf_126 : decode cX9_wordOf 126 = .ok (.ldc 253, 2) := by decide +kernel
theorem dX9_wordOf_128 : decode cX9_wordOf 128 = .ok (.areturn, 1) := by decide +kernel
theorem dX9_digitsOf_0 : decode cX9_digitsOf 0 = .ok (.iload_n 1, 1) := by decide +kernel
theorem dX9_digitsOf_1 : decode cX9_digitsOf 1 = .ok (.bipush 107, 2) := by decide +kernel
theorem dX9_digitsOf_3 : decode cX9_digitsOf 3 = .ok (.if_icmp .ne 7, 3) := by decide +kernel
theorem dX9_digitsOf_6 : decode cX9_digitsOf 6 = .ok (.iconst 0, 1) := by decide +kernel
theorem dX9_digitsOf_7 : decode cX9_digitsOf 7 = .ok (.goto 42, 3) := by decide +kernel
theorem dX9_digitsOf_10 : decode cX9_digitsOf 10 = .ok (.iload_n 1, 1) := by decide +kernel
theorem dX9_digitsOf_11 : decode cX9_digitsOf 11 = .ok (.bipush 105, 2) := by decide +kernel
theorem dX9_digitsOf_13 : decode cX9_digitsOf 13 = .ok (.if_icmp .ne 7, 3) := by decide +kernel
theorem dX9_digitsOf_16 : decode cX9_digitsOf 16 = .ok (.iconst 3, 1) := by decide +kernel
theorem dX9_digitsOf_17 : decode cX9_digitsOf 17 = .ok (.goto 32, 3) := by decide +kernel
theorem dX9_digitsOf_20 : decode cX9_digitsOf 20 = .ok (.iload_n 1, 1) := by decide +kernel
theorem dX9_digitsOf_21 : decode cX9_digitsOf 21 = .ok (.bipush 108, 2) := by decide +kernel
theorem dX9_digitsOf_23 : decode cX9_digitsOf 23 = .ok (.if_icmp .eq 21, 3) := by decide +kernel
theorem dX9_digitsOf_26 : decode cX9_digitsOf 26 = .ok (.iload_n 1, 1) := by decide +kernel
theorem dX9_digitsOf_27 : decode cX9_digitsOf 27 = .ok (.bipush 101, 2) := by decide +kernel
theorem dX9_digitsOf_29 : decode cX9_digitsOf 29 = .ok (.if_icmp .eq 15, 3) := by decide +kernel
theorem dX9_digitsOf_32 : decode cX9_digitsOf 32 = .ok (.iload_n 1, 1) := by decide +kernel
theorem dX9_digitsOf_33 : decode cX9_digitsOf 33 = .ok (.bipush 98, 2) := by decide +kernel
theorem dX9_digitsOf_35 : decode cX9_digitsOf 35 = .ok (.if_icmp .eq 9, 3) := by decide +kernel
theorem dX9_digitsOf_38 : decode cX9_digitsOf 38 = .ok (.iload_n 1, 1) := by decide +kernel
theorem dX9_digitsOf_39 : decode cX9_digitsOf 39 = .ok (.bipush 119, 2) := by decide +kernel
theorem dX9_digitsOf_41 : decode cX9_digitsOf 41 = .ok (.if_icmp .ne 7, 3) := by decide +kernel
theorem dX9_digitsOf_44 : decode cX9_digitsOf 44 = .ok (.iconst 2, 1) := by decide +kernel
theorem dX9_digitsOf_45 : decode cX9_digitsOf 45 = .ok (.goto 4, 3) := by decide +kernel
theorem dX9_digitsOf_48 : decode cX9_digitsOf 48 = .ok (.iconst 1, 1) := by decide +kernel
theorem dX9_digitsOf_49 : decode cX9_digitsOf 49 = .ok (.ireturn, 1) := by decide +kernel
theorem dX9_readCommand_0 : decode cX9_readCommand 0 = .ok (.aload_n 0, 1) := by decide +kernel
theorem dX9_readCommand_1 : decode cX9_readCommand 1 = .ok (.getfield 217, 3) := by decide +kernel
theorem dX9_readCommand_4 : decode cX9_readCommand 4 = .ok (.ifCond .eq 4, 3) := by decide +kernel
theorem dX9_readCommand_7 : decode cX9_readCommand 7 = .ok (.return_, 1) := by decide +kernel
theorem dX9_readCommand_8 : decode cX9_readCommand 8 = .ok (.aload_n 0, 1) := by decide +kernel
theorem dX9_readCommand_9 : decode cX9_readCommand 9 = .ok (.invokevirtual 255, 3) := by decide +kernel
theorem dX9_readCommand_12 : decode cX9_readCommand 12 = .ok (.istore_n 1, 1) := by decide +kernel
theorem dX9_readCommand_13 : decode cX9_readCommand 13 = .ok (.iload_n 1, 1) := by decide +kernel
theorem dX9_readCommand_14 : decode cX9_readCommand 14 = .ok (.bipush 99, 2) := by decide +kernel
theorem dX9_readCommand_16 : decode cX9_readCommand 16 = .ok (.if_icmp .eq 15, 3) := by decide +kernel
theorem dX9_readCommand_19 : decode cX9_readCommand 19 = .ok (.iload_n 1, 1) := by decide +kernel
theorem dX9_readCommand_20 : decode cX9_readCommand 20 = .ok (.bipush 105, 2) := by decide +kernel
theorem dX9_readCommand_22 : decode cX9_readCommand 22 = .ok (.if_icmp .eq 9, 3) := by decide +kernel
theorem dX9_readCommand_25 : decode cX9_readCommand 25 = .ok (.iload_n 1, 1) := by decide +kernel
theorem dX9_readCommand_26 : decode cX9_readCommand 26 = .ok (.bipush 107, 2) := by decide +kernel
theorem dX9_readCommand_28 : decode cX9_readCommand 28 = .ok (.if_icmp .ne 16, 3) := by decide +kernel
theorem dX9_readCommand_31 : decode cX9_readCommand 31 = .ok (.aload_n 0, 1) := by decide +kernel
theorem dX9_readCommand_32 : decode cX9_readCommand 32 = .ok (.iconst 0, 1) := by decide +kernel
theorem dX9_readCommand_33 : decode cX9_readCommand 33 = .ok (.invokevirtual 221, 3) := by decide +kernel
theorem dX9_readCommand_36 : decode cX9_readCommand 36 = .ok (.iload_n 1, 1) := by decide +kernel
theorem dX9_readCommand_37 : decode cX9_readCommand 37 = .ok (.if_icmp .ne 7, 3) := by decide +kernel
theorem dX9_readCommand_40 : decode cX9_readCommand 40 = .ok (.iconst 1, 1) := by decide +kernel
theorem dX9_readCommand_41 : decode cX9_readCommand 41 = .ok (.goto 4, 3) := by decide +kernel
theorem dX9_readCommand_44 : decode cX9_readCommand 44 = .ok (.iconst 0, 1) := by decide +kernel
theorem dX9_readCommand_45 : decode cX9_readCommand 45 = .ok (.istore_n 2, 1) := by decide +kernel
theorem dX9_readCommand_46 : decode cX9_readCommand 46 = .ok (.aload_n 0, 1) := by decide +kernel
theorem dX9_readCommand_47 : decode cX9_readCommand 47 = .ok (.iload_n 2, 1) := by decide +kernel
theorem dX9_readCommand_48 : decode cX9_readCommand 48 = .ok (.ifCond .eq 8, 3) := by decide +kernel
theorem dX9_readCommand_51 : decode cX9_readCommand 51 = .ok (.ldc 253, 2) := by decide +kernel
theorem dX9_readCommand_53 : decode cX9_readCommand 53 = .ok (.goto 8, 3) := by decide +kernel
theorem dX9_readCommand_56 : decode cX9_readCommand 56 = .ok (.aload_n 0, 1) := by decide +kernel
theorem dX9_readCommand_57 : decode cX9_readCommand 57 = .ok (.iload_n 1, 1) := by decide +kernel
theorem dX9_readCommand_58 : decode cX9_readCommand 58 = .ok (.invokevirtual 259, 3) := by decide +kernel
theorem dX9_readCommand_61 : decode cX9_readCommand 61 = .ok (.invokevirtual 230, 3) := by decide +kernel
theorem dX9_readCommand_64 : decode cX9_readCommand 64 = .ok (.aload_n 0, 1) := by decide +kernel
theorem dX9_readCommand_65 : decode cX9_readCommand 65 = .ok (.getfield 36, 3) := by decide +kernel
theorem dX9_readCommand_68 : decode cX9_readCommand 68 = .ok (.iconst 4, 1) := by decide +kernel
theorem dX9_readCommand_69 : decode cX9_readCommand 69 = .ok (.aload_n 0, 1) := by decide +kernel
theorem dX9_readCommand_70 : decode cX9_readCommand 70 = .ok (.getfield 263, 3) := by decide +kernel
theorem dX9_readCommand_73 : decode cX9_readCommand 73 = .ok (.imul, 1) := by decide +kernel
theorem dX9_readCommand_74 : decode cX9_readCommand 74 = .ok (.iload_n 1, 1) := by decide +kernel
theorem dX9_readCommand_75 : decode cX9_readCommand 75 = .ok (.iastore, 1) := by decide +kernel
theorem dX9_readCommand_76 : decode cX9_readCommand 76 = .ok (.iconst 0, 1) := by decide +kernel
theorem dX9_readCommand_77 : decode cX9_readCommand 77 = .ok (.istore_n 3, 1) := by decide +kernel
theorem dX9_readCommand_78 : decode cX9_readCommand 78 = .ok (.iload_n 3, 1) := by decide +kernel
theorem dX9_readCommand_79 : decode cX9_readCommand 79 = .ok (.aload_n 0, 1) := by decide +kernel
theorem dX9_readCommand_80 : decode cX9_readCommand 80 = .ok (.iload_n 1, 1) := by decide +kernel
theorem dX9_readCommand_81 : decode cX9_readCommand 81 = .ok (.invokevirtual 266, 3) := by decide +kernel
theorem dX9_readCommand_84 : decode cX9_readCommand 84 = .ok (.if_icmp .ge 35, 3) := by decide +kernel
theorem dX9_readCommand_87 : decode cX9_readCommand 87 = .ok (.aload_n 0, 1) := by decide +kernel
theorem dX9_readCommand_88 : decode cX9_readCommand 88 = .ok (.getfield 217, 3) := by decide +kernel
theorem dX9_readCommand_91 : decode cX9_readCommand 91 = .ok (.ifCond .ne 28, 3) := by decide +kernel
theorem dX9_readCommand_94 : decode cX9_readCommand 94 = .ok (.aload_n 0, 1) := by decide +kernel
theorem dX9_readCommand_95 : decode cX9_readCommand 95 = .ok (.getfield 36, 3) := by decide +kernel
theorem dX9_readCommand_98 : decode cX9_readCommand 98 = .ok (.iconst 4, 1) := by decide +kernel
theorem dX9_readCommand_99 : decode cX9_readCommand 99 = .ok (.aload_n 0, 1) := by decide +kernel
theorem dX9_readCommand_100 : decode cX9_readCommand 100 = .ok (.getfield 263, 3) := by decide +kernel
theorem dX9_readCommand_103 : decode cX9_readCommand 103 = .ok (.imul, 1) := by decide +kernel
theorem dX9_readCommand_104 : decode cX9_readCommand 104 = .ok (.iconst 1, 1) := by decide +kernel
theorem dX9_readCommand_105 : decode cX9_readCommand 105 = .ok (.iadd, 1) := by decide +kernel
theorem dX9_readCommand_106 : decode cX9_readCommand 106 = .ok (.iload_n 3, 1) := by decide +kernel
theorem dX9_readCommand_107 : decode cX9_readCommand 107 = .ok (.iadd, 1) := by decide +kernel
theorem dX9_readCommand_108 : decode cX9_readCommand 108 = .ok (.aload_n 0, 1) := by decide +kernel
theorem dX9_readCommand_109 : decode cX9_readCommand 109 = .ok (.invokevirtual 270, 3) := by decide +kernel
theorem dX9_readCommand_112 : decode cX9_readCommand 112 = .ok (.iastore, 1) := by decide +kernel
theorem dX9_readCommand_113 : decode cX9_readCommand 113 = .ok (.iinc 3 1, 3) := by decide +kernel
theorem dX9_readCommand_116 : decode cX9_readCommand 116 = .ok (.goto (-38), 3) := by decide +kernel
theorem dX9_readCommand_119 : decode cX9_readCommand 119 = .ok (.aload_n 0, 1) := by decide +kernel
theorem dX9_readCommand_120 : decode cX9_readCommand 120 = .ok (.dup, 1) := by decide +kernel
theorem dX9_readCommand_121 : decode cX9_readCommand 121 = .ok (.getfield 263, 3) := by decide +kernel
theorem dX9_readCommand_124 : decode cX9_readCommand 124 = .ok (.iconst 1, 1) := by decide +kernel
theorem dX9_readCommand_125 : decode cX9_readCommand 125 = .ok (.iadd, 1) := by decide +kernel
theorem dX9_readCommand_126 : decode cX9_readCommand 126 = .ok (.putfield 263, 3) := by decide +kernel
theorem dX9_readCommand_129 : decode cX9_readCommand 129 = .ok (.return_, 1) := by decide +kernel
theorem dX9_does_0 : decode cX9_does 0 = .ok (.aload_n 0, 1) := by decide +kernel
theorem dX9_does_1 : decode cX9_does 1 = .ok (.getfield 36, 3) := by decide +kernel
theorem dX9_does_4 : decode cX9_does 4 = .ok (.iconst 4, 1) := by decide +kernel
theorem dX9_does_5 : decode cX9_does 5 = .ok (.iload_n 1, 1) := by decide +kernel
theorem dX9_does_6 : decode cX9_does 6 = .ok (.imul, 1) := by decide +kernel
theorem dX9_does_7 : decode cX9_does 7 = .ok (.iconst 1, 1) := by decide +kernel
theorem dX9_does_8 : decode cX9_does 8 = .ok (.iadd, 1) := by decide +kernel
theorem dX9_does_9 : decode cX9_does 9 = .ok (.iaload, 1) := by decide +kernel
theorem dX9_does_10 : decode cX9_does 10 = .ok (.istore_n 2, 1) := by decide +kernel
theorem dX9_does_11 : decode cX9_does 11 = .ok (.aload_n 0, 1) := by decide +kernel
theorem dX9_does_12 : decode cX9_does 12 = .ok (.getfield 36, 3) := by decide +kernel
theorem dX9_does_15 : decode cX9_does 15 = .ok (.iconst 4, 1) := by decide +kernel
theorem dX9_does_16 : decode cX9_does 16 = .ok (.iload_n 1, 1) := by decide +kernel
theorem dX9_does_17 : decode cX9_does 17 = .ok (.imul, 1) := by decide +kernel
theorem dX9_does_18 : decode cX9_does 18 = .ok (.iconst 2, 1) := by decide +kernel
theorem dX9_does_19 : decode cX9_does 19 = .ok (.iadd, 1) := by decide +kernel
theorem dX9_does_20 : decode cX9_does 20 = .ok (.iaload, 1) := by decide +kernel
theorem dX9_does_21 : decode cX9_does 21 = .ok (.istore_n 3, 1) := by decide +kernel
theorem dX9_does_22 : decode cX9_does 22 = .ok (.iconst 0, 1) := by decide +kernel
theorem dX9_does_23 : decode cX9_does 23 = .ok (.istore 4, 2) := by decide +kernel
theorem dX9_does_25 : decode cX9_does 25 = .ok (.aload_n 0, 1) := by decide +kernel
theorem dX9_does_26 : decode cX9_does 26 = .ok (.getfield 36, 3) := by decide +kernel
theorem dX9_does_29 : decode cX9_does 29 = .ok (.iconst 4, 1) := by decide +kernel
theorem dX9_does_30 : decode cX9_does 30 = .ok (.iload_n 1, 1) := by decide +kernel
theorem dX9_does_31 : decode cX9_does 31 = .ok (.imul, 1) := by decide +kernel
theorem dX9_does_32 : decode cX9_does 32 = .ok (.iaload, 1) := by decide +kernel
theorem dX9_does_33 : decode cX9_does 33 = .ok (.tableswitch 216 97 116 #[206, 187, 105, 216, 126, 216, 216, 216, 147, 216, 168, 115, 216, 216, 216, 216, 216, 177, 95, 137], 95) := by decide +kernel
theorem dX9_does_128 : decode cX9_does 128 = .ok (.aload_n 0, 1) := by decide +kernel
theorem dX9_does_129 : decode cX9_does 129 = .ok (.iload_n 2, 1) := by decide +kernel
theorem dX9_does_130 : decode cX9_does 130 = .ok (.invokevirtual 69, 3) := by decide +kernel
theorem dX9_does_133 : decode cX9_does 133 = .ok (.istore 4, 2) := by decide +kernel
theorem dX9_does_135 : decode cX9_does 135 = .ok (.goto 122, 3) := by decide +kernel
theorem dX9_does_138 : decode cX9_does 138 = .ok (.aload_n 0, 1) := by decide +kernel
theorem dX9_does_139 : decode cX9_does 139 = .ok (.iload_n 2, 1) := by decide +kernel
theorem dX9_does_140 : decode cX9_does 140 = .ok (.invokevirtual 153, 3) := by decide +kernel
theorem dX9_does_143 : decode cX9_does 143 = .ok (.istore 4, 2) := by decide +kernel
theorem dX9_does_145 : decode cX9_does 145 = .ok (.goto 112, 3) := by decide +kernel
theorem dX9_does_148 : decode cX9_does 148 = .ok (.aload_n 0, 1) := by decide +kernel
theorem dX9_does_149 : decode cX9_does 149 = .ok (.iload_n 2, 1) := by decide +kernel
theorem dX9_does_150 : decode cX9_does 150 = .ok (.iload_n 3, 1) := by decide +kernel
theorem dX9_does_151 : decode cX9_does 151 = .ok (.invokevirtual 79, 3) := by decide +kernel
theorem dX9_does_154 : decode cX9_does 154 = .ok (.istore 4, 2) := by decide +kernel
theorem dX9_does_156 : decode cX9_does 156 = .ok (.goto 101, 3) := by decide +kernel
theorem dX9_does_159 : decode cX9_does 159 = .ok (.aload_n 0, 1) := by decide +kernel
theorem dX9_does_160 : decode cX9_does 160 = .ok (.iload_n 2, 1) := by decide +kernel
theorem dX9_does_161 : decode cX9_does 161 = .ok (.iload_n 3, 1) := by decide +kernel
theorem dX9_does_162 : decode cX9_does 162 = .ok (.invokevirtual 88, 3) := by decide +kernel
theorem dX9_does_165 : decode cX9_does 165 = .ok (.istore 4, 2) := by decide +kernel
theorem dX9_does_167 : decode cX9_does 167 = .ok (.goto 90, 3) := by decide +kernel
theorem dX9_does_170 : decode cX9_does 170 = .ok (.aload_n 0, 1) := by decide +kernel
theorem dX9_does_171 : decode cX9_does 171 = .ok (.iload_n 2, 1) := by decide +kernel
theorem dX9_does_172 : decode cX9_does 172 = .ok (.invokevirtual 98, 3) := by decide +kernel
theorem dX9_does_175 : decode cX9_does 175 = .ok (.istore 4, 2) := by decide +kernel
theorem dX9_does_177 : decode cX9_does 177 = .ok (.goto 80, 3) := by decide +kernel
theorem dX9_does_180 : decode cX9_does 180 = .ok (.aload_n 0, 1) := by decide +kernel
theorem dX9_does_181 : decode cX9_does 181 = .ok (.iload_n 2, 1) := by decide +kernel
theorem dX9_does_182 : decode cX9_does 182 = .ok (.iload_n 3, 1) := by decide +kernel
theorem dX9_does_183 : decode cX9_does 183 = .ok (.aload_n 0, 1) := by decide +kernel
theorem dX9_does_184 : decode cX9_does 184 = .ok (.getfield 36, 3) := by decide +kernel
theorem dX9_does_187 : decode cX9_does 187 = .ok (.iconst 4, 1) := by decide +kernel
theorem dX9_does_188 : decode cX9_does 188 = .ok (.iload_n 1, 1) := by decide +kernel
theorem dX9_does_189 : decode cX9_does 189 = .ok (.imul, 1) := by decide +kernel
theorem dX9_does_190 : decode cX9_does 190 = .ok (.iconst 3, 1) := by decide +kernel
theorem dX9_does_191 : decode cX9_does 191 = .ok (.iadd, 1) := by decide +kernel
theorem dX9_does_192 : decode cX9_does 192 = .ok (.iaload, 1) := by decide +kernel
theorem dX9_does_193 : decode cX9_does 193 = .ok (.invokevirtual 136, 3) := by decide +kernel
theorem dX9_does_196 : decode cX9_does 196 = .ok (.istore 4, 2) := by decide +kernel
theorem dX9_does_198 : decode cX9_does 198 = .ok (.goto 59, 3) := by decide +kernel
theorem dX9_does_201 : decode cX9_does 201 = .ok (.aload_n 0, 1) := by decide +kernel
theorem dX9_does_202 : decode cX9_does 202 = .ok (.invokevirtual 104, 3) := by decide +kernel
theorem dX9_does_205 : decode cX9_does 205 = .ok (.istore 4, 2) := by decide +kernel
theorem dX9_does_207 : decode cX9_does 207 = .ok (.goto 50, 3) := by decide +kernel
theorem dX9_does_210 : decode cX9_does 210 = .ok (.aload_n 0, 1) := by decide +kernel
theorem dX9_does_211 : decode cX9_does 211 = .ok (.iload_n 2, 1) := by decide +kernel
theorem dX9_does_212 : decode cX9_does 212 = .ok (.invokevirtual 130, 3) := by decide +kernel
theorem dX9_does_215 : decode cX9_does 215 = .ok (.istore 4, 2) := by decide +kernel
theorem dX9_does_217 : decode cX9_does 217 = .ok (.goto 40, 3) := by decide +kernel
theorem dX9_does_220 : decode cX9_does 220 = .ok (.aload_n 0, 1) := by decide +kernel
theorem dX9_does_221 : decode cX9_does 221 = .ok (.iload_n 2, 1) := by decide +kernel
theorem dX9_does_222 : decode cX9_does 222 = .ok (.iload_n 3, 1) := by decide +kernel
theorem dX9_does_223 : decode cX9_does 223 = .ok (.invokevirtual 147, 3) := by decide +kernel
theorem dX9_does_226 : decode cX9_does 226 = .ok (.ifCond .eq 7, 3) := by decide +kernel
theorem dX9_does_229 : decode cX9_does 229 = .ok (.iconst 1, 1) := by decide +kernel
theorem dX9_does_230 : decode cX9_does 230 = .ok (.goto 4, 3) := by decide +kernel
theorem dX9_does_233 : decode cX9_does 233 = .ok (.iconst 0, 1) := by decide +kernel
theorem dX9_does_234 : decode cX9_does 234 = .ok (.istore 4, 2) := by decide +kernel
theorem dX9_does_236 : decode cX9_does 236 = .ok (.goto 21, 3) := by decide +kernel
theorem dX9_does_239 : decode cX9_does 239 = .ok (.aload_n 0, 1) := by decide +kernel
theorem dX9_does_240 : decode cX9_does 240 = .ok (.iload_n 2, 1) := by decide +kernel
theorem dX9_does_241 : decode cX9_does 241 = .ok (.invokevirtual 150, 3) := by decide +kernel
theorem dX9_does_244 : decode cX9_does 244 = .ok (.istore 4, 2) := by decide +kernel
theorem dX9_does_246 : decode cX9_does 246 = .ok (.goto 11, 3) := by decide +kernel
theorem dX9_does_249 : decode cX9_does 249 = .ok (.aload_n 0, 1) := by decide +kernel
theorem dX9_does_250 : decode cX9_does 250 = .ok (.iload_n 2, 1) := by decide +kernel
theorem dX9_does_251 : decode cX9_does 251 = .ok (.iload_n 3, 1) := by decide +kernel
theorem dX9_does_252 : decode cX9_does 252 = .ok (.invokevirtual 168, 3) := by decide +kernel
theorem dX9_does_255 : decode cX9_does 255 = .ok (.istore 4, 2) := by decide +kernel
theorem dX9_does_257 : decode cX9_does 257 = .ok (.return_, 1) := by decide +kernel
theorem dX9_execute_0 : decode cX9_execute 0 = .ok (.aload_n 0, 1) := by decide +kernel
theorem dX9_execute_1 : decode cX9_execute 1 = .ok (.iconst 0, 1) := by decide +kernel
theorem dX9_execute_2 : decode cX9_execute 2 = .ok (.putfield 210, 3) := by decide +kernel
theorem dX9_execute_5 : decode cX9_execute 5 = .ok (.aload_n 0, 1) := by decide +kernel
theorem dX9_execute_6 : decode cX9_execute 6 = .ok (.iconst 0, 1) := by decide +kernel
theorem dX9_execute_7 : decode cX9_execute 7 = .ok (.putfield 217, 3) := by decide +kernel
theorem dX9_execute_10 : decode cX9_execute 10 = .ok (.aload_n 0, 1) := by decide +kernel
theorem dX9_execute_11 : decode cX9_execute 11 = .ok (.iconst 0, 1) := by decide +kernel
theorem dX9_execute_12 : decode cX9_execute 12 = .ok (.putfield 263, 3) := by decide +kernel
theorem dX9_execute_15 : decode cX9_execute 15 = .ok (.aload_n 0, 1) := by decide +kernel
theorem dX9_execute_16 : decode cX9_execute 16 = .ok (.invokevirtual 273, 3) := by decide +kernel
theorem dX9_execute_19 : decode cX9_execute 19 = .ok (.aload_n 0, 1) := by decide +kernel
theorem dX9_execute_20 : decode cX9_execute 20 = .ok (.getfield 217, 3) := by decide +kernel
theorem dX9_execute_23 : decode cX9_execute 23 = .ok (.ifCond .ne 30, 3) := by decide +kernel
theorem dX9_execute_26 : decode cX9_execute 26 = .ok (.aload_n 0, 1) := by decide +kernel
theorem dX9_execute_27 : decode cX9_execute 27 = .ok (.iconst 0, 1) := by decide +kernel
theorem dX9_execute_28 : decode cX9_execute 28 = .ok (.invokevirtual 221, 3) := by decide +kernel
theorem dX9_execute_31 : decode cX9_execute 31 = .ok (.bipush 59, 2) := by decide +kernel
theorem dX9_execute_33 : decode cX9_execute 33 = .ok (.if_icmp .ne 20, 3) := by decide +kernel
theorem dX9_execute_36 : decode cX9_execute 36 = .ok (.aload_n 0, 1) := by decide +kernel
theorem dX9_execute_37 : decode cX9_execute 37 = .ok (.dup, 1) := by decide +kernel
theorem dX9_execute_38 : decode cX9_execute 38 = .ok (.getfield 210, 3) := by decide +kernel
theorem dX9_execute_41 : decode cX9_execute 41 = .ok (.iconst 1, 1) := by decide +kernel
theorem dX9_execute_42 : decode cX9_execute 42 = .ok (.iadd, 1) := by decide +kernel
theorem dX9_execute_43 : decode cX9_execute 43 = .ok (.putfield 210, 3) := by decide +kernel
theorem dX9_execute_46 : decode cX9_execute 46 = .ok (.aload_n 0, 1) := by decide +kernel
theorem dX9_execute_47 : decode cX9_execute 47 = .ok (.invokevirtual 273, 3) := by decide +kernel
theorem dX9_execute_50 : decode cX9_execute 50 = .ok (.goto (-31), 3) := by decide +kernel
theorem dX9_execute_53 : decode cX9_execute 53 = .ok (.aload_n 0, 1) := by decide +kernel
theorem dX9_execute_54 : decode cX9_execute 54 = .ok (.aload_n 0, 1) := by decide +kernel
theorem dX9_execute_55 : decode cX9_execute 55 = .ok (.getfield 217, 3) := by decide +kernel
theorem dX9_execute_58 : decode cX9_execute 58 = .ok (.ifCond .ne 14, 3) := by decide +kernel
theorem dX9_execute_61 : decode cX9_execute 61 = .ok (.aload_n 0, 1) := by decide +kernel
theorem dX9_execute_62 : decode cX9_execute 62 = .ok (.getfield 210, 3) := by decide +kernel
theorem dX9_execute_65 : decode cX9_execute 65 = .ok (.aload_n 0, 1) := by decide +kernel
theorem dX9_execute_66 : decode cX9_execute 66 = .ok (.getfield 207, 3) := by decide +kernel
theorem dX9_execute_69 : decode cX9_execute 69 = .ok (.if_icmp .ge 7, 3) := by decide +kernel
theorem dX9_execute_72 : decode cX9_execute 72 = .ok (.iconst 1, 1) := by decide +kernel
theorem dX9_execute_73 : decode cX9_execute 73 = .ok (.goto 4, 3) := by decide +kernel
theorem dX9_execute_76 : decode cX9_execute 76 = .ok (.iconst 0, 1) := by decide +kernel
theorem dX9_execute_77 : decode cX9_execute 77 = .ok (.putfield 217, 3) := by decide +kernel
theorem dX9_execute_80 : decode cX9_execute 80 = .ok (.aload_n 0, 1) := by decide +kernel
theorem dX9_execute_81 : decode cX9_execute 81 = .ok (.aload_n 0, 1) := by decide +kernel
theorem dX9_execute_82 : decode cX9_execute 82 = .ok (.getfield 217, 3) := by decide +kernel
theorem dX9_execute_85 : decode cX9_execute 85 = .ok (.ifCond .eq 10, 3) := by decide +kernel
theorem dX9_execute_88 : decode cX9_execute 88 = .ok (.aload_n 0, 1) := by decide +kernel
theorem dX9_execute_89 : decode cX9_execute 89 = .ok (.getfield 210, 3) := by decide +kernel
theorem dX9_execute_92 : decode cX9_execute 92 = .ok (.goto 7, 3) := by decide +kernel
theorem dX9_execute_95 : decode cX9_execute 95 = .ok (.aload_n 0, 1) := by decide +kernel
theorem dX9_execute_96 : decode cX9_execute 96 = .ok (.getfield 29, 3) := by decide +kernel
theorem dX9_execute_99 : decode cX9_execute 99 = .ok (.putfield 29, 3) := by decide +kernel
theorem dX9_execute_102 : decode cX9_execute 102 = .ok (.aload_n 0, 1) := by decide +kernel
theorem dX9_execute_103 : decode cX9_execute 103 = .ok (.iconst 0, 1) := by decide +kernel
theorem dX9_execute_104 : decode cX9_execute 104 = .ok (.putfield 207, 3) := by decide +kernel
theorem dX9_execute_107 : decode cX9_execute 107 = .ok (.aload_n 0, 1) := by decide +kernel
theorem dX9_execute_108 : decode cX9_execute 108 = .ok (.getfield 217, 3) := by decide +kernel
theorem dX9_execute_111 : decode cX9_execute 111 = .ok (.ifCond .eq 9, 3) := by decide +kernel
theorem dX9_execute_114 : decode cX9_execute 114 = .ok (.aload_n 0, 1) := by decide +kernel
theorem dX9_execute_115 : decode cX9_execute 115 = .ok (.iconst 1, 1) := by decide +kernel
theorem dX9_execute_116 : decode cX9_execute 116 = .ok (.invokevirtual 63, 3) := by decide +kernel
theorem dX9_execute_119 : decode cX9_execute 119 = .ok (.ireturn, 1) := by decide +kernel
theorem dX9_execute_120 : decode cX9_execute 120 = .ok (.aload_n 0, 1) := by decide +kernel
theorem dX9_execute_121 : decode cX9_execute 121 = .ok (.invokevirtual 66, 3) := by decide +kernel
theorem dX9_execute_124 : decode cX9_execute 124 = .ok (.iconst 0, 1) := by decide +kernel
theorem dX9_execute_125 : decode cX9_execute 125 = .ok (.istore_n 1, 1) := by decide +kernel
theorem dX9_execute_126 : decode cX9_execute 126 = .ok (.iload_n 1, 1) := by decide +kernel
theorem dX9_execute_127 : decode cX9_execute 127 = .ok (.aload_n 0, 1) := by decide +kernel
theorem dX9_execute_128 : decode cX9_execute 128 = .ok (.getfield 263, 3) := by decide +kernel
theorem dX9_execute_131 : decode cX9_execute 131 = .ok (.if_icmp .ge 36, 3) := by decide +kernel
theorem dX9_execute_134 : decode cX9_execute 134 = .ok (.aload_n 0, 1) := by decide +kernel
theorem dX9_execute_135 : decode cX9_execute 135 = .ok (.iload_n 1, 1) := by decide +kernel
theorem dX9_execute_136 : decode cX9_execute 136 = .ok (.invokevirtual 276, 3) := by decide +kernel
theorem dX9_execute_139 : decode cX9_execute 139 = .ok (.aload_n 0, 1) := by decide +kernel
theorem dX9_execute_140 : decode cX9_execute 140 = .ok (.getfield 39, 3) := by decide +kernel
theorem dX9_execute_143 : decode cX9_execute 143 = .ok (.ifCond .le 18, 3) := by decide +kernel
theorem dX9_execute_146 : decode cX9_execute 146 = .ok (.aload_n 0, 1) := by decide +kernel
theorem dX9_execute_147 : decode cX9_execute 147 = .ok (.iload_n 1, 1) := by decide +kernel
theorem dX9_execute_148 : decode cX9_execute 148 = .ok (.putfield 33, 3) := by decide +kernel
theorem dX9_execute_151 : decode cX9_execute 151 = .ok (.aload_n 0, 1) := by decide +kernel
theorem dX9_execute_152 : decode cX9_execute 152 = .ok (.aload_n 0, 1) := by decide +kernel
theorem dX9_execute_153 : decode cX9_execute 153 = .ok (.iconst 2, 1) := by decide +kernel
theorem dX9_execute_154 : decode cX9_execute 154 = .ok (.invokevirtual 63, 3) := by decide +kernel
theorem dX9_execute_157 : decode cX9_execute 157 = .ok (.invokevirtual 72, 3) := by decide +kernel
theorem dX9_execute_160 : decode cX9_execute 160 = .ok (.ireturn, 1) := by decide +kernel
theorem dX9_execute_161 : decode cX9_execute 161 = .ok (.iinc 1 1, 3) := by decide +kernel
theorem dX9_execute_164 : decode cX9_execute 164 = .ok (.goto (-38), 3) := by decide +kernel
theorem dX9_execute_167 : decode cX9_execute 167 = .ok (.aload_n 0, 1) := by decide +kernel
theorem dX9_execute_168 : decode cX9_execute 168 = .ok (.aload_n 0, 1) := by decide +kernel
theorem dX9_execute_169 : decode cX9_execute 169 = .ok (.getfield 263, 3) := by decide +kernel
theorem dX9_execute_172 : decode cX9_execute 172 = .ok (.invokevirtual 72, 3) := by decide +kernel
theorem dX9_execute_175 : decode cX9_execute 175 = .ok (.ireturn, 1) := by decide +kernel
theorem dX9_errorPosition_0 : decode cX9_errorPosition 0 = .ok (.aload_n 0, 1) := by decide +kernel
theorem dX9_errorPosition_1 : decode cX9_errorPosition 1 = .ok (.aload_n 0, 1) := by decide +kernel
theorem dX9_errorPosition_2 : decode cX9_errorPosition 2 = .ok (.getfield 29, 3) := by decide +kernel
theorem dX9_errorPosition_5 : decode cX9_errorPosition 5 = .ok (.ifCond .ge 7, 3) := by decide +kernel
theorem dX9_errorPosition_8 : decode cX9_errorPosition 8 = .ok (.iconst 1, 1) := by decide +kernel
theorem dX9_errorPosition_9 : decode cX9_errorPosition 9 = .ok (.goto 4, 3) := by decide +kernel
theorem dX9_errorPosition_12 : decode cX9_errorPosition 12 = .ok (.iconst 0, 1) := by decide +kernel
theorem dX9_errorPosition_13 : decode cX9_errorPosition 13 = .ok (.putfield 39, 3) := by decide +kernel
theorem dX9_errorPosition_16 : decode cX9_errorPosition 16 = .ok (.aload_n 0, 1) := by decide +kernel
theorem dX9_errorPosition_17 : decode cX9_errorPosition 17 = .ok (.getfield 39, 3) := by decide +kernel
theorem dX9_errorPosition_20 : decode cX9_errorPosition 20 = .ok (.ifCond .le 7, 3) := by decide +kernel
theorem dX9_errorPosition_23 : decode cX9_errorPosition 23 = .ok (.iconst 0, 1) := by decide +kernel
theorem dX9_errorPosition_24 : decode cX9_errorPosition 24 = .ok (.goto 7, 3) := by decide +kernel
theorem dX9_errorPosition_27 : decode cX9_errorPosition 27 = .ok (.aload_n 0, 1) := by decide +kernel
theorem dX9_errorPosition_28 : decode cX9_errorPosition 28 = .ok (.getfield 29, 3) := by decide +kernel
theorem dX9_errorPosition_31 : decode cX9_errorPosition 31 = .ok (.ireturn, 1) := by decide +kernel
theorem dX9_failedCommand_0 : decode cX9_failedCommand 0 = .ok (.aload_n 0, 1) := by decide +kernel
theorem dX9_failedCommand_1 : decode cX9_failedCommand 1 = .ok (.aload_n 0, 1) := by decide +kernel
theorem dX9_failedCommand_2 : decode cX9_failedCommand 2 = .ok (.getfield 33, 3) := by decide +kernel
theorem dX9_failedCommand_5 : decode cX9_failedCommand 5 = .ok (.ifCond .ge 7, 3) := by decide +kernel
theorem dX9_failedCommand_8 : decode cX9_failedCommand 8 = .ok (.iconst 1, 1) := by decide +kernel
theorem dX9_failedCommand_9 : decode cX9_failedCommand 9 = .ok (.goto 4, 3) := by decide +kernel
theorem dX9_failedCommand_12 : decode cX9_failedCommand 12 = .ok (.iconst 0, 1) := by decide +kernel
theorem dX9_failedCommand_13 : decode cX9_failedCommand 13 = .ok (.putfield 39, 3) := by decide +kernel
theorem dX9_failedCommand_16 : decode cX9_failedCommand 16 = .ok (.aload_n 0, 1) := by decide +kernel
theorem dX9_failedCommand_17 : decode cX9_failedCommand 17 = .ok (.getfield 39, 3) := by decide +kernel
theorem dX9_failedCommand_20 : decode cX9_failedCommand 20 = .ok (.ifCond .le 7, 3) := by decide +kernel
theorem dX9_failedCommand_23 : decode cX9_failedCommand 23 = .ok (.iconst 0, 1) := by decide +kernel
theorem dX9_failedCommand_24 : decode cX9_failedCommand 24 = .ok (.goto 7, 3) := by decide +kernel
theorem dX9_failedCommand_27 : decode cX9_failedCommand 27 = .ok (.aload_n 0, 1) := by decide +kernel
theorem dX9_failedCommand_28 : decode cX9_failedCommand 28 = .ok (.getfield 33, 3) := by decide +kernel
theorem dX9_failedCommand_31 : decode cX9_failedCommand 31 = .ok (.ireturn, 1) := by decide +kernel
theorem dX9_undo_0 : decode cX9_undo 0 = .ok (.aload_n 0, 1) := by decide +kernel
theorem dX9_undo_1 : decode cX9_undo 1 = .ok (.aload_n 0, 1) := by decide +kernel
theorem dX9_undo_2 : decode cX9_undo 2 = .ok (.getfield 48, 3) := by decide +kernel
theorem dX9_undo_5 : decode cX9_undo 5 = .ok (.ifCond .ne 7, 3) := by decide +kernel
theorem dX9_undo_8 : decode cX9_undo 8 = .ok (.iconst 1, 1) := by decide +kernel
theorem dX9_undo_9 : decode cX9_undo 9 = .ok (.goto 4, 3) := by decide +kernel
theorem dX9_undo_12 : decode cX9_undo 12 = .ok (.iconst 0, 1) := by decide +kernel
theorem dX9_undo_13 : decode cX9_undo 13 = .ok (.putfield 39, 3) := by decide +kernel
theorem dX9_undo_16 : decode cX9_undo 16 = .ok (.aload_n 0, 1) := by decide +kernel
theorem dX9_undo_17 : decode cX9_undo 17 = .ok (.getfield 39, 3) := by decide +kernel
theorem dX9_undo_20 : decode cX9_undo 20 = .ok (.ifCond .le 5, 3) := by decide +kernel
theorem dX9_undo_23 : decode cX9_undo 23 = .ok (.iconst 0, 1) := by decide +kernel
theorem dX9_undo_24 : decode cX9_undo 24 = .ok (.ireturn, 1) := by decide +kernel
theorem dX9_undo_25 : decode cX9_undo 25 = .ok (.aload_n 0, 1) := by decide +kernel
theorem dX9_undo_26 : decode cX9_undo 26 = .ok (.dup, 1) := by decide +kernel
theorem dX9_undo_27 : decode cX9_undo 27 = .ok (.getfield 48, 3) := by decide +kernel
theorem dX9_undo_30 : decode cX9_undo 30 = .ok (.iconst 1, 1) := by decide +kernel
theorem dX9_undo_31 : decode cX9_undo 31 = .ok (.isub, 1) := by decide +kernel
theorem dX9_undo_32 : decode cX9_undo 32 = .ok (.putfield 48, 3) := by decide +kernel
theorem dX9_undo_35 : decode cX9_undo 35 = .ok (.aload_n 0, 1) := by decide +kernel
theorem dX9_undo_36 : decode cX9_undo 36 = .ok (.getfield 19, 3) := by decide +kernel
theorem dX9_undo_39 : decode cX9_undo 39 = .ok (.sipush 129, 3) := by decide +kernel
theorem dX9_undo_42 : decode cX9_undo 42 = .ok (.aload_n 0, 1) := by decide +kernel
theorem dX9_undo_43 : decode cX9_undo 43 = .ok (.getfield 48, 3) := by decide +kernel
theorem dX9_undo_46 : decode cX9_undo 46 = .ok (.imul, 1) := by decide +kernel
theorem dX9_undo_47 : decode cX9_undo 47 = .ok (.aload_n 0, 1) := by decide +kernel
theorem dX9_undo_48 : decode cX9_undo 48 = .ok (.getfield 9, 3) := by decide +kernel
theorem dX9_undo_51 : decode cX9_undo 51 = .ok (.iconst 0, 1) := by decide +kernel
theorem dX9_undo_52 : decode cX9_undo 52 = .ok (.sipush 129, 3) := by decide +kernel
theorem dX9_undo_55 : decode cX9_undo 55 = .ok (.invokestatic 42, 3) := by decide +kernel
theorem dX9_undo_58 : decode cX9_undo 58 = .ok (.aload_n 0, 1) := by decide +kernel
theorem dX9_undo_59 : decode cX9_undo 59 = .ok (.getfield 48, 3) := by decide +kernel
theorem dX9_undo_62 : decode cX9_undo 62 = .ok (.ireturn, 1) := by decide +kernel
theorem dX9_save_0 : decode cX9_save 0 = .ok (.aload_n 0, 1) := by decide +kernel
theorem dX9_save_1 : decode cX9_save 1 = .ok (.iconst 0, 1) := by decide +kernel
theorem dX9_save_2 : decode cX9_save 2 = .ok (.putfield 39, 3) := by decide +kernel
theorem dX9_save_5 : decode cX9_save 5 = .ok (.aload_n 0, 1) := by decide +kernel
theorem dX9_save_6 : decode cX9_save 6 = .ok (.getfield 9, 3) := by decide +kernel
theorem dX9_save_9 : decode cX9_save 9 = .ok (.iconst 0, 1) := by decide +kernel
theorem dX9_save_10 : decode cX9_save 10 = .ok (.aload_n 0, 1) := by decide +kernel
theorem dX9_save_11 : decode cX9_save 11 = .ok (.getfield 16, 3) := by decide +kernel
theorem dX9_save_14 : decode cX9_save 14 = .ok (.iconst 0, 1) := by decide +kernel
theorem dX9_save_15 : decode cX9_save 15 = .ok (.sipush 129, 3) := by decide +kernel
theorem dX9_save_18 : decode cX9_save 18 = .ok (.invokestatic 42, 3) := by decide +kernel
theorem dX9_save_21 : decode cX9_save 21 = .ok (.aload_n 0, 1) := by decide +kernel
theorem dX9_save_22 : decode cX9_save 22 = .ok (.iconst 1, 1) := by decide +kernel
theorem dX9_save_23 : decode cX9_save 23 = .ok (.putfield 279, 3) := by decide +kernel
theorem dX9_save_26 : decode cX9_save 26 = .ok (.aload_n 0, 1) := by decide +kernel
theorem dX9_save_27 : decode cX9_save 27 = .ok (.getfield 9, 3) := by decide +kernel
theorem dX9_save_30 : decode cX9_save 30 = .ok (.iconst 3, 1) := by decide +kernel
theorem dX9_save_31 : decode cX9_save 31 = .ok (.iaload, 1) := by decide +kernel
theorem dX9_save_32 : decode cX9_save 32 = .ok (.ireturn, 1) := by decide +kernel
theorem dX9_restore_0 : decode cX9_restore 0 = .ok (.aload_n 0, 1) := by decide +kernel
theorem dX9_restore_1 : decode cX9_restore 1 = .ok (.aload_n 0, 1) := by decide +kernel
theorem dX9_restore_2 : decode cX9_restore 2 = .ok (.getfield 279, 3) := by decide +kernel
theorem dX9_restore_5 : decode cX9_restore 5 = .ok (.ifCond .eq 7, 3) := by decide +kernel
theorem dX9_restore_8 : decode cX9_restore 8 = .ok (.iconst 0, 1) := by decide +kernel
theorem dX9_restore_9 : decode cX9_restore 9 = .ok (.goto 4, 3) := by decide +kernel
theorem dX9_restore_12 : decode cX9_restore 12 = .ok (.iconst 1, 1) := by decide +kernel
theorem dX9_restore_13 : decode cX9_restore 13 = .ok (.putfield 39, 3) := by decide +kernel
theorem dX9_restore_16 : decode cX9_restore 16 = .ok (.aload_n 0, 1) := by decide +kernel
theorem dX9_restore_17 : decode cX9_restore 17 = .ok (.getfield 39, 3) := by decide +kernel
theorem dX9_restore_20 : decode cX9_restore 20 = .ok (.ifCond .le 5, 3) := by decide +kernel
theorem dX9_restore_23 : decode cX9_restore 23 = .ok (.iconst 0, 1) := by decide +kernel
theorem dX9_restore_24 : decode cX9_restore 24 = .ok (.ireturn, 1) := by decide +kernel
theorem dX9_restore_25 : decode cX9_restore 25 = .ok (.aload_n 0, 1) := by decide +kernel
theorem dX9_restore_26 : decode cX9_restore 26 = .ok (.getfield 16, 3) := by decide +kernel
theorem dX9_restore_29 : decode cX9_restore 29 = .ok (.iconst 0, 1) := by decide +kernel
theorem dX9_restore_30 : decode cX9_restore 30 = .ok (.aload_n 0, 1) := by decide +kernel
theorem dX9_restore_31 : decode cX9_restore 31 = .ok (.getfield 9, 3) := by decide +kernel
theorem dX9_restore_34 : decode cX9_restore 34 = .ok (.iconst 0, 1) := by decide +kernel
theorem dX9_restore_35 : decode cX9_restore 35 = .ok (.sipush 129, 3) := by decide +kernel
theorem dX9_restore_38 : decode cX9_restore 38 = .ok (.invokestatic 42, 3) := by decide +kernel
theorem dX9_restore_41 : decode cX9_restore 41 = .ok (.aload_n 0, 1) := by decide +kernel
theorem dX9_restore_42 : decode cX9_restore 42 = .ok (.iconst 0, 1) := by decide +kernel
theorem dX9_restore_43 : decode cX9_restore 43 = .ok (.putfield 48, 3) := by decide +kernel
theorem dX9_restore_46 : decode cX9_restore 46 = .ok (.aload_n 0, 1) := by decide +kernel
theorem dX9_restore_47 : decode cX9_restore 47 = .ok (.getfield 9, 3) := by decide +kernel
theorem dX9_restore_50 : decode cX9_restore 50 = .ok (.iconst 3, 1) := by decide +kernel
theorem dX9_restore_51 : decode cX9_restore 51 = .ok (.iaload, 1) := by decide +kernel
theorem dX9_restore_52 : decode cX9_restore 52 = .ok (.ireturn, 1) := by decide +kernel
