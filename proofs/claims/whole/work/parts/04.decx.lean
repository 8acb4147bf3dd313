theorem dX0_init_0 : decode cX0_init 0 = .ok (.aload_n 0, 1) := by decide +kernel
theorem dX0_init_1 : decode cX0_init 1 = .ok (.invokespecial 3, 3) := by decide +kernel
theorem dX0_init_4 : decode cX0_init 4 = .ok (.aload_n 0, 1) := by decide +kernel
theorem dX0_init_5 : decode cX0_init 5 = .ok (.bipush 60, 2) := by decide +kernel
theorem dX0_init_7 : decode cX0_init 7 = .ok (.newarray .char, 2) := by decide +kernel
theorem dX0_init_9 : decode cX0_init 9 = .ok (.putfield 9, 3) := by decide +kernel
theorem dX0_init_12 : decode cX0_init 12 = .ok (.aload_n 0, 1) := by decide +kernel
theorem dX0_init_13 : decode cX0_init 13 = .ok (.bipush 12, 2) := by decide +kernel
theorem dX0_init_15 : decode cX0_init 15 = .ok (.newarray .int, 2) := by decide +kernel
theorem dX0_init_17 : decode cX0_init 17 = .ok (.putfield 15, 3) := by decide +kernel
theorem dX0_init_20 : decode cX0_init 20 = .ok (.aload_n 0, 1) := by decide +kernel
theorem dX0_init_21 : decode cX0_init 21 = .ok (.bipush 12, 2) := by decide +kernel
theorem dX0_init_23 : decode cX0_init 23 = .ok (.iconst 3, 1) := by decide +kernel
theorem dX0_init_24 : decode cX0_init 24 = .ok (.multianewarray 19 2, 4) := by decide +kernel
theorem dX0_init_28 : decode cX0_init 28 = .ok (.putfield 21, 3) := by decide +kernel
theorem dX0_init_31 : decode cX0_init 31 = .ok (.return_, 1) := by decide +kernel
theorem dX0_append_0 : decode cX0_append 0 = .ok (.aload_n 0, 1) := by decide +kernel
theorem dX0_append_1 : decode cX0_append 1 = .ok (.getfield 9, 3) := by decide +kernel
theorem dX0_append_4 : decode cX0_append 4 = .ok (.aload_n 0, 1) := by decide +kernel
theorem dX0_append_5 : decode cX0_append 5 = .ok (.getfield 24, 3) := by decide +kernel
theorem dX0_append_8 : decode cX0_append 8 = .ok (.iload_n 1, 1) := by decide +kernel
theorem dX0_append_9 : decode cX0_append 9 = .ok (.castore, 1) := by decide +kernel
theorem dX0_append_10 : decode cX0_append 10 = .ok (.aload_n 0, 1) := by decide +kernel
theorem dX0_append_11 : decode cX0_append 11 = .ok (.dup, 1) := by decide +kernel
theorem dX0_append_12 : decode cX0_append 12 = .ok (.getfield 24, 3) := by decide +kernel
theorem dX0_append_15 : decode cX0_append 15 = .ok (.iconst 1, 1) := by decide +kernel
theorem dX0_append_16 : decode cX0_append 16 = .ok (.iadd, 1) := by decide +kernel
theorem dX0_append_17 : decode cX0_append 17 = .ok (.putfield 24, 3) := by decide +kernel
theorem dX0_append_20 : decode cX0_append 20 = .ok (.aload_n 0, 1) := by decide +kernel
theorem dX0_append_21 : decode cX0_append 21 = .ok (.getfield 24, 3) := by decide +kernel
theorem dX0_append_24 : decode cX0_append 24 = .ok (.ireturn, 1) := by decide +kernel
theorem dX0_empty_0 : decode cX0_empty 0 = .ok (.aload_n 0, 1) := by decide +kernel
theorem dX0_empty_1 : decode cX0_empty 1 = .ok (.iconst 0, 1) := by decide +kernel
theorem dX0_empty_2 : decode cX0_empty 2 = .ok (.putfield 24, 3) := by decide +kernel
theorem dX0_empty_5 : decode cX0_empty 5 = .ok (.return_, 1) := by decide +kernel
theorem dX0_parse_0 : decode cX0_parse 0 = .ok (.aload_n 0, 1) := by decide +kernel
theorem dX0_parse_1 : decode cX0_parse 1 = .ok (.iconst 0, 1) := by decide +kernel
theorem dX0_parse_2 : decode cX0_parse 2 = .ok (.putfield 28, 3) := by decide +kernel
theorem dX0_parse_5 : decode cX0_parse 5 = .ok (.aload_n 0, 1) := by decide +kernel
theorem dX0_parse_6 : decode cX0_parse 6 = .ok (.iconst 0, 1) := by decide +kernel
theorem dX0_parse_7 : decode cX0_parse 7 = .ok (.putfield 31, 3) := by decide +kernel
theorem dX0_parse_10 : decode cX0_parse 10 = .ok (.aload_n 0, 1) := by decide +kernel
theorem dX0_parse_11 : decode cX0_parse 11 = .ok (.getfield 31, 3) := by decide +kernel
theorem dX0_parse_14 : decode cX0_parse 14 = .ok (.bipush 12, 2) := by decide +kernel
theorem dX0_parse_16 : decode cX0_parse 16 = .ok (.if_icmp .ge 46, 3) := by decide +kernel
theorem dX0_parse_19 : decode cX0_parse 19 = .ok (.aload_n 0, 1) := by decide +kernel
theorem dX0_parse_20 : decode cX0_parse 20 = .ok (.invokevirtual 34, 3) := by decide +kernel
theorem dX0_parse_23 : decode cX0_parse 23 = .ok (.ifCond .ne 5, 3) := by decide +kernel
theorem dX0_parse_26 : decode cX0_parse 26 = .ok (.iconst 0, 1) := by decide +kernel
theorem dX0_parse_27 : decode cX0_parse 27 = .ok (.ireturn, 1) := by decide +kernel
theorem dX0_parse_28 : decode cX0_parse 28 = .ok (.aload_n 0, 1) := by decide +kernel
theorem dX0_parse_29 : decode cX0_parse 29 = .ok (.dup, 1) := by decide +kernel
theorem dX0_parse_30 : decode cX0_parse 30 = .ok (.getfield 31, 3) := by decide +kernel
theorem dX0_parse_33 : decode cX0_parse 33 = .ok (.iconst 1, 1) := by decide +kernel
theorem dX0_parse_34 : decode cX0_parse 34 = .ok (.iadd, 1) := by decide +kernel
theorem dX0_parse_35 : decode cX0_parse 35 = .ok (.putfield 31, 3) := by decide +kernel
theorem dX0_parse_38 : decode cX0_parse 38 = .ok (.aload_n 0, 1) := by decide +kernel
theorem dX0_parse_39 : decode cX0_parse 39 = .ok (.getfield 28, 3) := by decide +kernel
theorem dX0_parse_42 : decode cX0_parse 42 = .ok (.aload_n 0, 1) := by decide +kernel
theorem dX0_parse_43 : decode cX0_parse 43 = .ok (.getfield 24, 3) := by decide +kernel
theorem dX0_parse_46 : decode cX0_parse 46 = .ok (.if_icmp .ne 5, 3) := by decide +kernel
theorem dX0_parse_49 : decode cX0_parse 49 = .ok (.iconst 1, 1) := by decide +kernel
theorem dX0_parse_50 : decode cX0_parse 50 = .ok (.ireturn, 1) := by decide +kernel
theorem dX0_parse_51 : decode cX0_parse 51 = .ok (.aload_n 0, 1) := by decide +kernel
theorem dX0_parse_52 : decode cX0_parse 52 = .ok (.bipush 59, 2) := by decide +kernel
theorem dX0_parse_54 : decode cX0_parse 54 = .ok (.invokevirtual 38, 3) := by decide +kernel
theorem dX0_parse_57 : decode cX0_parse 57 = .ok (.ifCond .ne (-47), 3) := by decide +kernel
theorem dX0_parse_60 : decode cX0_parse 60 = .ok (.iconst 0, 1) := by decide +kernel
theorem dX0_parse_61 : decode cX0_parse 61 = .ok (.ireturn, 1) := by decide +kernel
theorem dX0_parse_62 : decode cX0_parse 62 = .ok (.iconst 0, 1) := by decide +kernel
theorem dX0_parse_63 : decode cX0_parse 63 = .ok (.ireturn, 1) := by decide +kernel
theorem dX0_takeCommand_0 : decode cX0_takeCommand 0 = .ok (.aload_n 0, 1) := by decide +kernel
theorem dX0_takeCommand_1 : decode cX0_takeCommand 1 = .ok (.invokevirtual 42, 3) := by decide +kernel
theorem dX0_takeCommand_4 : decode cX0_takeCommand 4 = .ok (.istore_n 1, 1) := by decide +kernel
theorem dX0_takeCommand_5 : decode cX0_takeCommand 5 = .ok (.iload_n 1, 1) := by decide +kernel
theorem dX0_takeCommand_6 : decode cX0_takeCommand 6 = .ok (.iconst (-1), 1) := by decide +kernel
theorem dX0_takeCommand_7 : decode cX0_takeCommand 7 = .ok (.if_icmp .ne 5, 3) := by decide +kernel
theorem dX0_takeCommand_10 : decode cX0_takeCommand 10 = .ok (.iconst 0, 1) := by decide +kernel
theorem dX0_takeCommand_11 : decode cX0_takeCommand 11 = .ok (.ireturn, 1) := by decide +kernel
theorem dX0_takeCommand_12 : decode cX0_takeCommand 12 = .ok (.aload_n 0, 1) := by decide +kernel
theorem dX0_takeCommand_13 : decode cX0_takeCommand 13 = .ok (.getfield 15, 3) := by decide +kernel
theorem dX0_takeCommand_16 : decode cX0_takeCommand 16 = .ok (.aload_n 0, 1) := by decide +kernel
theorem dX0_takeCommand_17 : decode cX0_takeCommand 17 = .ok (.getfield 31, 3) := by decide +kernel
theorem dX0_takeCommand_20 : decode cX0_takeCommand 20 = .ok (.iload_n 1, 1) := by decide +kernel
theorem dX0_takeCommand_21 : decode cX0_takeCommand 21 = .ok (.iastore, 1) := by decide +kernel
theorem dX0_takeCommand_22 : decode cX0_takeCommand 22 = .ok (.iconst 0, 1) := by decide +kernel
theorem dX0_takeCommand_23 : decode cX0_takeCommand 23 = .ok (.istore_n 2, 1) := by decide +kernel
theorem dX0_takeCommand_24 : decode cX0_takeCommand 24 = .ok (.iload_n 2, 1) := by decide +kernel
theorem dX0_takeCommand_25 : decode cX0_takeCommand 25 = .ok (.getstatic 46, 3) := by decide +kernel
theorem dX0_takeCommand_28 : decode cX0_takeCommand 28 = .ok (.iload_n 1, 1) := by decide +kernel
theorem dX0_takeCommand_29 : decode cX0_takeCommand 29 = .ok (.iaload, 1) := by decide +kernel
theorem dX0_takeCommand_30 : decode cX0_takeCommand 30 = .ok (.if_icmp .ge 28, 3) := by decide +kernel
theorem dX0_takeCommand_33 : decode cX0_takeCommand 33 = .ok (.aload_n 0, 1) := by decide +kernel
theorem dX0_takeCommand_34 : decode cX0_takeCommand 34 = .ok (.bipush 32, 2) := by decide +kernel
theorem dX0_takeCommand_36 : decode cX0_takeCommand 36 = .ok (.invokevirtual 38, 3) := by decide +kernel
theorem dX0_takeCommand_39 : decode cX0_takeCommand 39 = .ok (.ifCond .eq 11, 3) := by decide +kernel
theorem dX0_takeCommand_42 : decode cX0_takeCommand 42 = .ok (.aload_n 0, 1) := by decide +kernel
theorem dX0_takeCommand_43 : decode cX0_takeCommand 43 = .ok (.iload_n 2, 1) := by decide +kernel
theorem dX0_takeCommand_44 : decode cX0_takeCommand 44 = .ok (.invokevirtual 49, 3) := by decide +kernel
theorem dX0_takeCommand_47 : decode cX0_takeCommand 47 = .ok (.ifCond .ne 5, 3) := by decide +kernel
theorem dX0_takeCommand_50 : decode cX0_takeCommand 50 = .ok (.iconst 0, 1) := by decide +kernel
theorem dX0_takeCommand_51 : decode cX0_takeCommand 51 = .ok (.ireturn, 1) := by decide +kernel
theorem dX0_takeCommand_52 : decode cX0_takeCommand 52 = .ok (.iinc 2 1, 3) := by decide +kernel
theorem dX0_takeCommand_55 : decode cX0_takeCommand 55 = .ok (.goto (-31), 3) := by decide +kernel
theorem dX0_takeCommand_58 : decode cX0_takeCommand 58 = .ok (.iconst 1, 1) := by decide +kernel
theorem dX0_takeCommand_59 : decode cX0_takeCommand 59 = .ok (.ireturn, 1) := by decide +kernel
theorem dX0_take_0 : decode cX0_take 0 = .ok (.aload_n 0, 1) := by decide +kernel
theorem dX0_take_1 : decode cX0_take 1 = .ok (.getfield 28, 3) := by decide +kernel
theorem dX0_take_4 : decode cX0_take 4 = .ok (.aload_n 0, 1) := by decide +kernel
theorem dX0_take_5 : decode cX0_take 5 = .ok (.getfield 24, 3) := by decide +kernel
theorem dX0_take_8 : decode cX0_take 8 = .ok (.if_icmp .ge 16, 3) := by decide +kernel
theorem dX0_take_11 : decode cX0_take 11 = .ok (.aload_n 0, 1) := by decide +kernel
theorem dX0_take_12 : decode cX0_take 12 = .ok (.getfield 9, 3) := by decide +kernel
theorem dX0_take_15 : decode cX0_take 15 = .ok (.aload_n 0, 1) := by decide +kernel
theorem dX0_take_16 : decode cX0_take 16 = .ok (.getfield 28, 3) := by decide +kernel
theorem dX0_take_19 : decode cX0_take 19 = .ok (.caload, 1) := by decide +kernel
theorem dX0_take_20 : decode cX0_take 20 = .ok (.iload_n 1, 1) := by decide +kernel
theorem dX0_take_21 : decode cX0_take 21 = .ok (.if_icmp .eq 5, 3) := by decide +kernel
theorem dX0_take_24 : decode cX0_take 24 = .ok (.iconst 0, 1) := by decide +kernel
theorem dX0_take_25 : decode cX0_take 25 = .ok (.ireturn, 1) := by decide +kernel
theorem dX0_take_26 : decode cX0_take 26 = .ok (.aload_n 0, 1) := by decide +kernel
theorem dX0_take_27 : decode cX0_take 27 = .ok (.dup, 1) := by decide +kernel
theorem dX0_take_28 : decode cX0_take 28 = .ok (.getfield 28, 3) := by decide +kernel
theorem dX0_take_31 : decode cX0_take 31 = .ok (.iconst 1, 1) := by decide +kernel
theorem dX0_take_32 : decode cX0_take 32 = .ok (.iadd, 1) := by decide +kernel
theorem dX0_take_33 : decode cX0_take 33 = .ok (.putfield 28, 3) := by decide +kernel
theorem dX0_take_36 : decode cX0_take 36 = .ok (.iconst 1, 1) := by decide +kernel
theorem dX0_take_37 : decode cX0_take 37 = .ok (.ireturn, 1) := by decide +kernel
theorem dX0_takeDigit_0 : decode cX0_takeDigit 0 = .ok (.aload_n 0, 1) := by decide +kernel
theorem dX0_takeDigit_1 : decode cX0_takeDigit 1 = .ok (.getfield 28, 3) := by decide +kernel
theorem dX0_takeDigit_4 : decode cX0_takeDigit 4 = .ok (.aload_n 0, 1) := by decide +kernel
theorem dX0_takeDigit_5 : decode cX0_takeDigit 5 = .ok (.getfield 24, 3) := by decide +kernel
theorem dX0_takeDigit_8 : decode cX0_takeDigit 8 = .ok (.if_icmp .ge 31, 3) := by decide +kernel
theorem dX0_takeDigit_11 : decode cX0_takeDigit 11 = .ok (.aload_n 0, 1) := by decide +kernel
theorem dX0_takeDigit_12 : decode cX0_takeDigit 12 = .ok (.getfield 9, 3) := by decide +kernel
theorem dX0_takeDigit_15 : decode cX0_takeDigit 15 = .ok (.aload_n 0, 1) := by decide +kernel
theorem dX0_takeDigit_16 : decode cX0_takeDigit 16 = .ok (.getfield 28, 3) := by decide +kernel
theorem dX0_takeDigit_19 : decode cX0_takeDigit 19 = .ok (.caload, 1) := by decide +kernel
theorem dX0_takeDigit_20 : decode cX0_takeDigit 20 = .ok (.bipush 48, 2) := by decide +kernel
theorem dX0_takeDigit_22 : decode cX0_takeDigit 22 = .ok (.if_icmp .lt 17, 3) := by decide +kernel
theorem dX0_takeDigit_25 : decode cX0_takeDigit 25 = .ok (.aload_n 0, 1) := by decide +kernel
theorem dX0_takeDigit_26 : decode cX0_takeDigit 26 = .ok (.getfield 9, 3) := by decide +kernel
theorem dX0_takeDigit_29 : decode cX0_takeDigit 29 = .ok (.aload_n 0, 1) := by decide +kernel
theorem dX0_takeDigit_30 : decode cX0_takeDigit 30 = .ok (.getfield 28, 3) := by decide +kernel
theorem dX0_takeDigit_33 : decode cX0_takeDigit 33 = .ok (.caload, 1) := by decide +kernel
theorem dX0_takeDigit_34 : decode cX0_takeDigit 34 = .ok (.bipush 57, 2) := by decide +kernel
theorem dX0_takeDigit_36 : decode cX0_takeDigit 36 = .ok (.if_icmp .le 5, 3) := by decide +kernel
theorem dX0_takeDigit_39 : decode cX0_takeDigit 39 = .ok (.iconst 0, 1) := by decide +kernel
theorem dX0_takeDigit_40 : decode cX0_takeDigit 40 = .ok (.ireturn, 1) := by decide +kernel
theorem dX0_takeDigit_41 : decode cX0_takeDigit 41 = .ok (.aload_n 0, 1) := by decide +kernel
theorem dX0_takeDigit_42 : decode cX0_takeDigit 42 = .ok (.getfield 21, 3) := by decide +kernel
theorem dX0_takeDigit_45 : decode cX0_takeDigit 45 = .ok (.aload_n 0, 1) := by decide +kernel
theorem dX0_takeDigit_46 : decode cX0_takeDigit 46 = .ok (.getfield 31, 3) := by decide +kernel
theorem dX0_takeDigit_49 : decode cX0_takeDigit 49 = .ok (.aaload, 1) := by decide +kernel
theorem dX0_takeDigit_50 : decode cX0_takeDigit 50 = .ok (.iload_n 1, 1) := by decide +kernel
theorem dX0_takeDigit_51 : decode cX0_takeDigit 51 = .ok (.aload_n 0, 1) := by decide +kernel
theorem dX0_takeDigit_52 : decode cX0_takeDigit 52 = .ok (.getfield 9, 3) := by decide +kernel
theorem dX0_takeDigit_55 : decode cX0_takeDigit 55 = .ok (.aload_n 0, 1) := by decide +kernel
theorem dX0_takeDigit_56 : decode cX0_takeDigit 56 = .ok (.getfield 28, 3) := by decide +kernel
theorem dX0_takeDigit_59 : decode cX0_takeDigit 59 = .ok (.caload, 1) := by decide +kernel
theorem dX0_takeDigit_60 : decode cX0_takeDigit 60 = .ok (.bipush 48, 2) := by decide +kernel
theorem dX0_takeDigit_62 : decode cX0_takeDigit 62 = .ok (.isub, 1) := by decide +kernel
theorem dX0_takeDigit_63 : decode cX0_takeDigit 63 = .ok (.iastore, 1) := by decide +kernel
theorem dX0_takeDigit_64 : decode cX0_takeDigit 64 = .ok (.aload_n 0, 1) := by decide +kernel
theorem dX0_takeDigit_65 : decode cX0_takeDigit 65 = .ok (.dup, 1) := by decide +kernel
theorem dX0_takeDigit_66 : decode cX0_takeDigit 66 = .ok (.getfield 28, 3) := by decide +kernel
theorem dX0_takeDigit_69 : decode cX0_takeDigit 69 = .ok (.iconst 1, 1) := by decide +kernel
theorem dX0_takeDigit_70 : decode cX0_takeDigit 70 = .ok (.iadd, 1) := by decide +kernel
theorem dX0_takeDigit_71 : decode cX0_takeDigit 71 = .ok (.putfield 28, 3) := by decide +kernel
theorem dX0_takeDigit_74 : decode cX0_takeDigit 74 = .ok (.iconst 1, 1) := by decide +kernel
theorem dX0_takeDigit_75 : decode cX0_takeDigit 75 = .ok (.ireturn, 1) := by decide +kernel
theorem dX0_takeWord_0 : decode cX0_takeWord 0 = .ok (.iconst 0, 1) := by decide +kernel
theorem dX0_takeWord_1 : decode cX0_takeWord 1 = .ok (.istore_n 1, 1) := by decide +kernel
theorem dX0_takeWord_2 : decode cX0_takeWord 2 = .ok (.iconst (-1), 1) := by decide +kernel
theorem dX0_takeWord_3 : decode cX0_takeWord 3 = .ok (.istore_n 2, 1) := by decide +kernel
theorem dX0_takeWord_4 : decode cX0_takeWord 4 = .ok (.iconst 0, 1) := by decide +kernel
theorem dX0_takeWord_5 : decode cX0_takeWord 5 = .ok (.istore_n 3, 1) := by decide +kernel
theorem dX0_takeWord_6 : decode cX0_takeWord 6 = .ok (.iload_n 3, 1) := by decide +kernel
theorem dX0_takeWord_7 : decode cX0_takeWord 7 = .ok (.bipush 11, 2) := by decide +kernel
theorem dX0_takeWord_9 : decode cX0_takeWord 9 = .ok (.if_icmp .ge 52, 3) := by decide +kernel
theorem dX0_takeWord_12 : decode cX0_takeWord 12 = .ok (.iload_n 3, 1) := by decide +kernel
theorem dX0_takeWord_13 : decode cX0_takeWord 13 = .ok (.invokestatic 53, 3) := by decide +kernel
theorem dX0_takeWord_16 : decode cX0_takeWord 16 = .ok (.astore 4, 2) := by decide +kernel
theorem dX0_takeWord_18 : decode cX0_takeWord 18 = .ok (.aload_n 0, 1) := by decide +kernel
theorem dX0_takeWord_19 : decode cX0_takeWord 19 = .ok (.aload 4, 2) := by decide +kernel
theorem dX0_takeWord_21 : decode cX0_takeWord 21 = .ok (.invokevirtual 57, 3) := by decide +kernel
theorem dX0_takeWord_24 : decode cX0_takeWord 24 = .ok (.istore 5, 2) := by decide +kernel
theorem dX0_takeWord_26 : decode cX0_takeWord 26 = .ok (.iload 5, 2) := by decide +kernel
theorem dX0_takeWord_28 : decode cX0_takeWord 28 = .ok (.iload_n 1, 1) := by decide +kernel
theorem dX0_takeWord_29 : decode cX0_takeWord 29 = .ok (.if_icmp .le 8, 3) := by decide +kernel
theorem dX0_takeWord_32 : decode cX0_takeWord 32 = .ok (.iload 5, 2) := by decide +kernel
theorem dX0_takeWord_34 : decode cX0_takeWord 34 = .ok (.istore_n 1, 1) := by decide +kernel
theorem dX0_takeWord_35 : decode cX0_takeWord 35 = .ok (.iconst (-1), 1) := by decide +kernel
theorem dX0_takeWord_36 : decode cX0_takeWord 36 = .ok (.istore_n 2, 1) := by decide +kernel
theorem dX0_takeWord_37 : decode cX0_takeWord 37 = .ok (.iload 5, 2) := by decide +kernel
theorem dX0_takeWord_39 : decode cX0_takeWord 39 = .ok (.iload_n 1, 1) := by decide +kernel
theorem dX0_takeWord_40 : decode cX0_takeWord 40 = .ok (.if_icmp .ne 15, 3) := by decide +kernel
theorem dX0_takeWord_43 : decode cX0_takeWord 43 = .ok (.iload 5, 2) := by decide +kernel
theorem dX0_takeWord_45 : decode cX0_takeWord 45 = .ok (.aload 4, 2) := by decide +kernel
theorem dX0_takeWord_47 : decode cX0_takeWord 47 = .ok (.invokevirtual 61, 3) := by decide +kernel
theorem dX0_takeWord_50 : decode cX0_takeWord 50 = .ok (.if_icmp .ne 5, 3) := by decide +kernel
theorem dX0_takeWord_53 : decode cX0_takeWord 53 = .ok (.iload_n 3, 1) := by decide +kernel
theorem dX0_takeWord_54 : decode cX0_takeWord 54 = .ok (.istore_n 2, 1) := by decide +kernel
theorem dX0_takeWord_55 : decode cX0_takeWord 55 = .ok (.iinc 3 1, 3) := by decide +kernel
theorem dX0_takeWord_58 : decode cX0_takeWord 58 = .ok (.goto (-52), 3) := by decide +kernel
theorem dX0_takeWord_61 : decode cX0_takeWord 61 = .ok (.aload_n 0, 1) := by decide +kernel
theorem dX0_takeWord_62 : decode cX0_takeWord 62 = .ok (.dup, 1) := by decide +kernel
theorem dX0_takeWord_63 : decode cX0_takeWord 63 = .ok (.getfield 28, 3) := by decide +kernel
theorem dX0_takeWord_66 : decode cX0_takeWord 66 = .ok (.iload_n 1, 1) := by decide +kernel
theorem dX0_takeWord_67 : decode cX0_takeWord 67 = .ok (.iadd, 1) := by decide +kernel
theorem dX0_takeWord_68 : decode cX0_takeWord 68 = .ok (.putfield 28, 3) := by decide +kernel
theorem dX0_takeWord_71 : decode cX0_takeWord 71 = .ok (.iload_n 2, 1) := by decide +kernel
theorem dX0_takeWord_72 : decode cX0_takeWord 72 = .ok (.ireturn, 1) := by decide +kernel
theorem dX0_matchedLength_0 : decode cX0_matchedLength 0 = .ok (.aload_n 1, 1) := by decide +kernel
theorem dX0_matchedLength_1 : decode cX0_matchedLength 1 = .ok (.invokevirtual 61, 3) := by decide +kernel
theorem dX0_matchedLength_4 : decode cX0_matchedLength 4 = .ok (.aload_n 0, 1) := by decide +kernel
theorem dX0_matchedLength_5 : decode cX0_matchedLength 5 = .ok (.getfield 24, 3) := by decide +kernel
theorem dX0_matchedLength_8 : decode cX0_matchedLength 8 = .ok (.aload_n 0, 1) := by decide +kernel
theorem dX0_matchedLength_9 : decode cX0_matchedLength 9 = .ok (.getfield 28, 3) := by decide +kernel
theorem dX0_matchedLength_12 : decode cX0_matchedLength 12 = .ok (.isub, 1) := by decide +kernel
theorem dX0_matchedLength_13 : decode cX0_matchedLength 13 = .ok (.invokestatic 65, 3) := by decide +kernel
theorem dX0_matchedLength_16 : decode cX0_matchedLength 16 = .ok (.istore_n 2, 1) := by decide +kernel
theorem dX0_matchedLength_17 : decode cX0_matchedLength 17 = .ok (.iconst 0, 1) := by decide +kernel
theorem dX0_matchedLength_18 : decode cX0_matchedLength 18 = .ok (.istore_n 3, 1) := by decide +kernel
theorem dX0_matchedLength_19 : decode cX0_matchedLength 19 = .ok (.iload_n 3, 1) := by decide +kernel
theorem dX0_matchedLength_20 : decode cX0_matchedLength 20 = .ok (.iload_n 2, 1) := by decide +kernel
theorem dX0_matchedLength_21 : decode cX0_matchedLength 21 = .ok (.if_icmp .ge 30, 3) := by decide +kernel
theorem dX0_matchedLength_24 : decode cX0_matchedLength 24 = .ok (.aload_n 0, 1) := by decide +kernel
theorem dX0_matchedLength_25 : decode cX0_matchedLength 25 = .ok (.getfield 9, 3) := by decide +kernel
theorem dX0_matchedLength_28 : decode cX0_matchedLength 28 = .ok (.aload_n 0, 1) := by decide +kernel
theorem dX0_matchedLength_29 : decode cX0_matchedLength 29 = .ok (.getfield 28, 3) := by decide +kernel
theorem dX0_matchedLength_32 : decode cX0_matchedLength 32 = .ok (.iload_n 3, 1) := by decide +kernel
theorem dX0_matchedLength_33 : decode cX0_matchedLength 33 = .ok (.iadd, 1) := by decide +kernel
theorem dX0_matchedLength_34 : decode cX0_matchedLength 34 = .ok (.caload, 1) := by decide +kernel
theorem dX0_matchedLength_35 : decode cX0_matchedLength 35 = .ok (.aload_n 1, 1) := by decide +kernel
theorem dX0_matchedLength_36 : decode cX0_matchedLength 36 = .ok (.iload_n 3, 1) := by decide +kernel
theorem dX0_matchedLength_37 : decode cX0_matchedLength 37 = .ok (.invokevirtual 71, 3) := by decide +kernel
theorem dX0_matchedLength_40 : decode cX0_matchedLength 40 = .ok (.if_icmp .eq 5, 3) := by decide +kernel
theorem dX0_matchedLength_43 : decode cX0_matchedLength 43 = .ok (.iload_n 3, 1) := by decide +kernel
theorem dX0_matchedLength_44 : decode cX0_matchedLength 44 = .ok (.ireturn, 1) := by decide +kernel
theorem dX0_matchedLength_45 : decode cX0_matchedLength 45 = .ok (.iinc 3 1, 3) := by decide +kernel
theorem dX0_matchedLength_48 : decode cX0_matchedLength 48 = .ok (.goto (-29), 3) := by decide +kernel
theorem dX0_matchedLength_51 : decode cX0_matchedLength 51 = .ok (.iload_n 2, 1) := by decide +kernel
theorem dX0_matchedLength_52 : decode cX0_matchedLength 52 = .ok (.ireturn, 1) := by decide +kernel
theorem dX0_wordOf_0 : decode cX0_wordOf 0 = .ok (.iload_n 0, 1) := by decide +kernel
theorem dX0_wordOf_1 : decode cX0_wordOf 1 = .ok (.tableswitch 85 0 9 #[55, 58, 61, 64, 67, 70, 73, 76, 79, 82], 55) := by decide +kernel
theorem dX0_wordOf_56 : decode cX0_wordOf 56 = .ok (.ldc 75, 2) := by decide +kernel
theorem dX0_wordOf_58 : decode cX0_wordOf 58 = .ok (.areturn, 1) := by decide +kernel
theorem dX0_wordOf_59 : decode cX0_wordOf 59 = .ok (.ldc 77, 2) := by decide +kernel
theorem dX0_wordOf_61 : decode cX0_wordOf 61 = .ok (.areturn, 1) := by decide +kernel
theorem dX0_wordOf_62 : decode cX0_wordOf 62 = .ok (.ldc 79, 2) := by decide +kernel
theorem dX0_wordOf_64 : decode cX0_wordOf 64 = .ok (.areturn, 1) := by decide +kernel
theorem dX0_wordOf_65 : decode cX0_wordOf 65 = .ok (.ldc 81, 2) := by decide +kernel
theorem dX0_wordOf_67 : decode cX0_wordOf 67 = .ok (.areturn, 1) := by decide +kernel
theorem dX0_wordOf_68 : decode cX0_wordOf 68 = .ok (.ldc 83, 2) := by decide +kernel
theorem dX0_wordOf_70 : decode cX0_wordOf 70 = .ok (.areturn, 1) := by decide +kernel
theorem dX0_wordOf_71 : decode cX0_wordOf 71 = .ok (.ldc 85, 2) := by decide +kernel
theorem dX0_wordOf_73 : decode cX0_wordOf 73 = .ok (.areturn, 1) := by decide +kernel
theorem dX0_wordOf_74 : decode cX0_wordOf 74 = .ok (.ldc 87, 2) := by decide +kernel
theorem dX0_wordOf_76 : decode cX0_wordOf 76 = .ok (.areturn, 1) := by decide +kernel
theorem dX0_wordOf_77 : decode cX0_wordOf 77 = .ok (.ldc 89, 2) := by decide +kernel
theorem dX0_wordOf_79 : decode cX0_wordOf 79 = .ok (.areturn, 1) := by decide +kernel
theorem dX0_wordOf_80 : decode cX0_wordOf 80 = .ok (.ldc 91, 2) := by decide +kernel
theorem dX0_wordOf_82 : decode cX0_wordOf 82 = .ok (.areturn, 1) := by decide +kernel
theorem dX0_wordOf_83 : decode cX0_wordOf 83 = .ok (.ldc 93, 2) := by decide +kernel
theorem dX0_wordOf_85 : decode cX0_wordOf 85 = .ok (.areturn, 1) := by decide +kernel
theorem dX0_wordOf_86 : decode cX0_wordOf 86 = .ok (.ldc 95, 2) := by decide +kernel
theorem dX0_wordOf_88 : decode cX0_wordOf 88 = .ok (.areturn, 1) := by decide +kernel
theorem dX1_init_0 : decode cX1_init 0 = .ok (.aload_n 0, 1) := by decide +kernel
theorem dX1_init_1 : decode cX1_init 1 = .ok (.invokespecial 3, 3) := by decide +kernel
theorem dX1_init_4 : decode cX1_init 4 = .ok (.aload_n 0, 1) := by decide +kernel
theorem dX1_init_5 : decode cX1_init 5 = .ok (.bipush 6, 2) := by decide +kernel
theorem dX1_init_7 : decode cX1_init 7 = .ok (.newarray .int, 2) := by decide +kernel
theorem dX1_init_9 : decode cX1_init 9 = .ok (.putfield 9, 3) := by decide +kernel
theorem dX1_init_12 : decode cX1_init 12 = .ok (.aload_n 0, 1) := by decide +kernel
theorem dX1_init_13 : decode cX1_init 13 = .ok (.bipush 6, 2) := by decide +kernel
theorem dX1_init_15 : decode cX1_init 15 = .ok (.newarray .int, 2) := by decide +kernel
theorem dX1_init_17 : decode cX1_init 17 = .ok (.putfield 15, 3) := by decide +kernel
theorem dX1_init_20 : decode cX1_init 20 = .ok (.aload_n 0, 1) := by decide +kernel
theorem dX1_init_21 : decode cX1_init 21 = .ok (.bipush 6, 2) := by decide +kernel
theorem dX1_init_23 : decode cX1_init 23 = .ok (.newarray .int, 2) := by decide +kernel
theorem dX1_init_25 : decode cX1_init 25 = .ok (.putfield 18, 3) := by decide +kernel
theorem dX1_init_28 : decode cX1_init 28 = .ok (.return_, 1) := by decide +kernel
theorem dX1_copyFrom_0 : decode cX1_copyFrom 0 = .ok (.aload_n 0, 1) := by decide +kernel
theorem dX1_copyFrom_1 : decode cX1_copyFrom 1 = .ok (.aload_n 1, 1) := by decide +kernel
theorem dX1_copyFrom_2 : decode cX1_copyFrom 2 = .ok (.getfield 21, 3) := by decide +kernel
theorem dX1_copyFrom_5 : decode cX1_copyFrom 5 = .ok (.putfield 21, 3) := by decide +kernel
theorem dX1_copyFrom_8 : decode cX1_copyFrom 8 = .ok (.aload_n 1, 1) := by decide +kernel
theorem dX1_copyFrom_9 : decode cX1_copyFrom 9 = .ok (.getfield 9, 3) := by decide +kernel
theorem dX1_copyFrom_12 : decode cX1_copyFrom 12 = .ok (.iconst 0, 1) := by decide +kernel
theorem dX1_copyFrom_13 : decode cX1_copyFrom 13 = .ok (.aload_n 0, 1) := by decide +kernel
theorem dX1_copyFrom_14 : decode cX1_copyFrom 14 = .ok (.getfield 9, 3) := by decide +kernel
theorem dX1_copyFrom_17 : decode cX1_copyFrom 17 = .ok (.iconst 0, 1) := by decide +kernel
theorem dX1_copyFrom_18 : decode cX1_copyFrom 18 = .ok (.bipush 6, 2) := by decide +kernel
theorem dX1_copyFrom_20 : decode cX1_copyFrom 20 = .ok (.invokestatic 25, 3) := by decide +kernel
theorem dX1_copyFrom_23 : decode cX1_copyFrom 23 = .ok (.aload_n 1, 1) := by decide +kernel
theorem dX1_copyFrom_24 : decode cX1_copyFrom 24 = .ok (.getfield 15, 3) := by decide +kernel
theorem dX1_copyFrom_27 : decode cX1_copyFrom 27 = .ok (.iconst 0, 1) := by decide +kernel
theorem dX1_copyFrom_28 : decode cX1_copyFrom 28 = .ok (.aload_n 0, 1) := by decide +kernel
theorem dX1_copyFrom_29 : decode cX1_copyFrom 29 = .ok (.getfield 15, 3) := by decide +kernel
theorem dX1_copyFrom_32 : decode cX1_copyFrom 32 = .ok (.iconst 0, 1) := by decide +kernel
theorem dX1_copyFrom_33 : decode cX1_copyFrom 33 = .ok (.bipush 6, 2) := by decide +kernel
theorem dX1_copyFrom_35 : decode cX1_copyFrom 35 = .ok (.invokestatic 25, 3) := by decide +kernel
theorem dX1_copyFrom_38 : decode cX1_copyFrom 38 = .ok (.aload_n 1, 1) := by decide +kernel
theorem dX1_copyFrom_39 : decode cX1_copyFrom 39 = .ok (.getfield 18, 3) := by decide +kernel
theorem dX1_copyFrom_42 : decode cX1_copyFrom 42 = .ok (.iconst 0, 1) := by decide +kernel
theorem dX1_copyFrom_43 : decode cX1_copyFrom 43 = .ok (.aload_n 0, 1) := by decide +kernel
theorem dX1_copyFrom_44 : decode cX1_copyFrom 44 = .ok (.getfield 18, 3) := by decide +kernel
theorem dX1_copyFrom_47 : decode cX1_copyFrom 47 = .ok (.iconst 0, 1) := by decide +kernel
theorem dX1_copyFrom_48 : decode cX1_copyFrom 48 = .ok (.bipush 6, 2) := by decide +kernel
theorem dX1_copyFrom_50 : decode cX1_copyFrom 50 = .ok (.invokestatic 25, 3) := by decide +kernel
theorem dX1_copyFrom_53 : decode cX1_copyFrom 53 = .ok (.return_, 1) := by decide +kernel
theorem dX1_hasTram_0 : decode cX1_hasTram 0 = .ok (.iload_n 1, 1) := by decide +kernel
theorem dX1_hasTram_1 : decode cX1_hasTram 1 = .ok (.ifCond .lt 15, 3) := by decide +kernel
theorem dX1_hasTram_4 : decode cX1_hasTram 4 = .ok (.iload_n 1, 1) := by decide +kernel
theorem dX1_hasTram_5 : decode cX1_hasTram 5 = .ok (.aload_n 0, 1) := by decide +kernel
theorem dX1_hasTram_6 : decode cX1_hasTram 6 = .ok (.getfield 21, 3) := by decide +kernel
theorem dX1_hasTram_9 : decode cX1_hasTram 9 = .ok (.if_icmp .ge 7, 3) := by decide +kernel
theorem dX1_hasTram_12 : decode cX1_hasTram 12 = .ok (.iconst 1, 1) := by decide +kernel
theorem dX1_hasTram_13 : decode cX1_hasTram 13 = .ok (.goto 4, 3) := by decide +kernel
theorem dX1_hasTram_16 : decode cX1_hasTram 16 = .ok (.iconst 0, 1) := by decide +kernel
theorem dX1_hasTram_17 : decode cX1_hasTram 17 = .ok (.ireturn, 1) := by decide +kernel
theorem dX1_putTram_0 : decode cX1_putTram 0 = .ok (.aload_n 0, 1) := by decide +kernel
theorem dX1_putTram_1 : decode cX1_putTram 1 = .ok (.getfield 9, 3) := by decide +kernel
theorem dX1_putTram_4 : decode cX1_putTram 4 = .ok (.aload_n 0, 1) := by decide +kernel
theorem dX1_putTram_5 : decode cX1_putTram 5 = .ok (.getfield 21, 3) := by decide +kernel
theorem dX1_putTram_8 : decode cX1_putTram 8 = .ok (.iload_n 1, 1) := by decide +kernel
theorem dX1_putTram_9 : decode cX1_putTram 9 = .ok (.iastore, 1) := by decide +kernel
theorem dX1_putTram_10 : decode cX1_putTram 10 = .ok (.aload_n 0, 1) := by decide +kernel
theorem dX1_putTram_11 : decode cX1_putTram 11 = .ok (.getfield 15, 3) := by decide +kernel
theorem dX1_putTram_14 : decode cX1_putTram 14 = .ok (.aload_n 0, 1) := by decide +kernel
theorem dX1_putTram_15 : decode cX1_putTram 15 = .ok (.getfield 21, 3) := by decide +kernel
theorem dX1_putTram_18 : decode cX1_putTram 18 = .ok (.iconst 0, 1) := by decide +kernel
theorem dX1_putTram_19 : decode cX1_putTram 19 = .ok (.iastore, 1) := by decide +kernel
theorem dX1_putTram_20 : decode cX1_putTram 20 = .ok (.aload_n 0, 1) := by decide +kernel
theorem dX1_putTram_21 : decode cX1_putTram 21 = .ok (.getfield 18, 3) := by decide +kernel
theorem dX1_putTram_24 : decode cX1_putTram 24 = .ok (.aload_n 0, 1) := by decide +kernel
theorem dX1_putTram_25 : decode cX1_putTram 25 = .ok (.getfield 21, 3) := by decide +kernel
theorem dX1_putTram_28 : decode cX1_putTram 28 = .ok (.iconst 1, 1) := by decide +kernel
theorem dX1_putTram_29 : decode cX1_putTram 29 = .ok (.iastore, 1) := by decide +kernel
theorem dX1_putTram_30 : decode cX1_putTram 30 = .ok (.aload_n 0, 1) := by decide +kernel
theorem dX1_putTram_31 : decode cX1_putTram 31 = .ok (.dup, 1) := by decide +kernel
theorem dX1_putTram_32 : decode cX1_putTram 32 = .ok (.getfield 21, 3) := by decide +kernel
theorem dX1_putTram_35 : decode cX1_putTram 35 = .ok (.iconst 1, 1) := by decide +kernel
theorem dX1_putTram_36 : decode cX1_putTram 36 = .ok (.iadd, 1) := by decide +kernel
theorem dX1_putTram_37 : decode cX1_putTram 37 = .ok (.putfield 21, 3) := by decide +kernel
theorem dX1_putTram_40 : decode cX1_putTram 40 = .ok (.aload_n 0, 1) := by decide +kernel
theorem dX1_putTram_41 : decode cX1_putTram 41 = .ok (.getfield 21, 3) := by decide +kernel
theorem dX1_putTram_44 : decode cX1_putTram 44 = .ok (.iconst 1, 1) := by decide +kernel
theorem dX1_putTram_45 : decode cX1_putTram 45 = .ok (.isub, 1) := by decide +kernel
theorem dX1_putTram_46 : decode cX1_putTram 46 = .ok (.ireturn, 1) := by decide +kernel
theorem dX1_moveAll_0 : decode cX1_moveAll 0 = .ok (.iconst 0, 1) := by decide +kernel
theorem dX1_moveAll_1 : decode cX1_moveAll 1 = .ok (.istore_n 2, 1) := by decide +kernel
theorem dX1_moveAll_2 : decode cX1_moveAll 2 = .ok (.iconst 0, 1) := by decide +kernel
theorem dX1_moveAll_3 : decode cX1_moveAll 3 = .ok (.istore_n 3, 1) := by decide +kernel
theorem dX1_moveAll_4 : decode cX1_moveAll 4 = .ok (.iload_n 3, 1) := by decide +kernel
theorem dX1_moveAll_5 : decode cX1_moveAll 5 = .ok (.aload_n 0, 1) := by decide +kernel
theorem dX1_moveAll_6 : decode cX1_moveAll 6 = .ok (.getfield 21, 3) := by decide +kernel
theorem dX1_moveAll_9 : decode cX1_moveAll 9 = .ok (.if_icmp .ge 85, 3) := by decide +kernel
theorem dX1_moveAll_12 : decode cX1_moveAll 12 = .ok (.aload_n 1, 1) := by decide +kernel
theorem dX1_moveAll_13 : decode cX1_moveAll 13 = .ok (.getfield 31, 3) := by decide +kernel
theorem dX1_moveAll_16 : decode cX1_moveAll 16 = .ok (.aload_n 0, 1) := by decide +kernel
theorem dX1_moveAll_17 : decode cX1_moveAll 17 = .ok (.getfield 9, 3) := by decide +kernel
theorem dX1_moveAll_20 : decode cX1_moveAll 20 = .ok (.iload_n 3, 1) := by decide +kernel
theorem dX1_moveAll_21 : decode cX1_moveAll 21 = .ok (.iaload, 1) := by decide +kernel
theorem dX1_moveAll_22 : decode cX1_moveAll 22 = .ok (.iaload, 1) := by decide +kernel
theorem dX1_moveAll_23 : decode cX1_moveAll 23 = .ok (.iconst 1, 1) := by decide +kernel
theorem dX1_moveAll_24 : decode cX1_moveAll 24 = .ok (.isub, 1) := by decide +kernel
theorem dX1_moveAll_25 : decode cX1_moveAll 25 = .ok (.istore 4, 2) := by decide +kernel
theorem dX1_moveAll_27 : decode cX1_moveAll 27 = .ok (.aload_n 0, 1) := by decide +kernel
theorem dX1_moveAll_28 : decode cX1_moveAll 28 = .ok (.getfield 15, 3) := by decide +kernel
theorem dX1_moveAll_31 : decode cX1_moveAll 31 = .ok (.iload_n 3, 1) := by decide +kernel
theorem dX1_moveAll_32 : decode cX1_moveAll 32 = .ok (.dup2, 1) := by decide +kernel
theorem dX1_moveAll_33 : decode cX1_moveAll 33 = .ok (.iaload, 1) := by decide +kernel
theorem dX1_moveAll_34 : decode cX1_moveAll 34 = .ok (.aload_n 0, 1) := by decide +kernel
theorem dX1_moveAll_35 : decode cX1_moveAll 35 = .ok (.getfield 18, 3) := by decide +kernel
theorem dX1_moveAll_38 : decode cX1_moveAll 38 = .ok (.iload_n 3, 1) := by decide +kernel
theorem dX1_moveAll_39 : decode cX1_moveAll 39 = .ok (.iaload, 1) := by decide +kernel
theorem dX1_moveAll_40 : decode cX1_moveAll 40 = .ok (.iadd, 1) := by decide +kernel
theorem dX1_moveAll_41 : decode cX1_moveAll 41 = .ok (.iastore, 1) := by decide +kernel
theorem dX1_moveAll_42 : decode cX1_moveAll 42 = .ok (.aload_n 0, 1) := by decide +kernel
theorem dX1_moveAll_43 : decode cX1_moveAll 43 = .ok (.getfield 18, 3) := by decide +kernel
theorem dX1_moveAll_46 : decode cX1_moveAll 46 = .ok (.iload_n 3, 1) := by decide +kernel
theorem dX1_moveAll_47 : decode cX1_moveAll 47 = .ok (.aload_n 0, 1) := by decide +kernel
theorem dX1_moveAll_48 : decode cX1_moveAll 48 = .ok (.getfield 15, 3) := by decide +kernel
theorem dX1_moveAll_51 : decode cX1_moveAll 51 = .ok (.iload_n 3, 1) := by decide +kernel
theorem dX1_moveAll_52 : decode cX1_moveAll 52 = .ok (.iaload, 1) := by decide +kernel
theorem dX1_moveAll_53 : decode cX1_moveAll 53 = .ok (.aload_n 0, 1) := by decide +kernel
theorem dX1_moveAll_54 : decode cX1_moveAll 54 = .ok (.getfield 18, 3) := by decide +kernel
theorem dX1_moveAll_57 : decode cX1_moveAll 57 = .ok (.iload_n 3, 1) := by decide +kernel
theorem dX1_moveAll_58 : decode cX1_moveAll 58 = .ok (.iaload, 1) := by decide +kernel
theorem dX1_moveAll_59 : decode cX1_moveAll 59 = .ok (.iload 4, 2) := by decide +kernel
theorem dX1_moveAll_61 : decode cX1_moveAll 61 = .ok (.invokestatic 36, 3) := by decide +kernel
theorem dX1_moveAll_64 : decode cX1_moveAll 64 = .ok (.iastore, 1) := by decide +kernel
theorem dX1_moveAll_65 : decode cX1_moveAll 65 = .ok (.aload_n 0, 1) := by decide +kernel
theorem dX1_moveAll_66 : decode cX1_moveAll 66 = .ok (.getfield 15, 3) := by decide +kernel
theorem dX1_moveAll_69 : decode cX1_moveAll 69 = .ok (.iload_n 3, 1) := by decide +kernel
theorem dX1_moveAll_70 : decode cX1_moveAll 70 = .ok (.iaload, 1) := by decide +kernel
theorem dX1_moveAll_71 : decode cX1_moveAll 71 = .ok (.ifCond .eq 14, 3) := by decide +kernel
theorem dX1_moveAll_74 : decode cX1_moveAll 74 = .ok (.aload_n 0, 1) := by decide +kernel
theorem dX1_moveAll_75 : decode cX1_moveAll 75 = .ok (.getfield 15, 3) := by decide +kernel
theorem dX1_moveAll_78 : decode cX1_moveAll 78 = .ok (.iload_n 3, 1) := by decide +kernel
theorem dX1_moveAll_79 : decode cX1_moveAll 79 = .ok (.iaload, 1) := by decide +kernel
theorem dX1_moveAll_80 : decode cX1_moveAll 80 = .ok (.iload 4, 2) := by decide +kernel
theorem dX1_moveAll_82 : decode cX1_moveAll 82 = .ok (.if_icmp .ne 6, 3) := by decide +kernel
theorem dX1_moveAll_85 : decode cX1_moveAll 85 = .ok (.iinc 2 1, 3) := by decide +kernel
theorem dX1_moveAll_88 : decode cX1_moveAll 88 = .ok (.iinc 3 1, 3) := by decide +kernel
theorem dX1_moveAll_91 : decode cX1_moveAll 91 = .ok (.goto (-87), 3) := by decide +kernel
theorem dX1_moveAll_94 : decode cX1_moveAll 94 = .ok (.iload_n 2, 1) := by decide +kernel
theorem dX1_moveAll_95 : decode cX1_moveAll 95 = .ok (.ireturn, 1) := by decide +kernel
theorem dX1_turned_0 : decode cX1_turned 0 = .ok (.iload_n 0, 1) := by decide +kernel
theorem dX1_turned_1 : decode cX1_turned 1 = .ok (.iload_n 2, 1) := by decide +kernel
theorem dX1_turned_2 : decode cX1_turned 2 = .ok (.if_icmp .lt 5, 3) := by decide +kernel
theorem dX1_turned_5 : decode cX1_turned 5 = .ok (.iconst (-1), 1) := by decide +kernel
theorem dX1_turned_6 : decode cX1_turned 6 = .ok (.ireturn, 1) := by decide +kernel
theorem dX1_turned_7 : decode cX1_turned 7 = .ok (.iload_n 0, 1) := by decide +kernel
theorem dX1_turned_8 : decode cX1_turned 8 = .ok (.ifCond .gt 7, 3) := by decide +kernel
theorem dX1_turned_11 : decode cX1_turned 11 = .ok (.iconst 1, 1) := by decide +kernel
theorem dX1_turned_12 : decode cX1_turned 12 = .ok (.goto 4, 3) := by decide +kernel
theorem dX1_turned_15 : decode cX1_turned 15 = .ok (.iload_n 1, 1) := by decide +kernel
theorem dX1_turned_16 : decode cX1_turned 16 = .ok (.ireturn, 1) := by decide +kernel
theorem dX2_init_0 : decode cX2_init 0 = .ok (.aload_n 0, 1) := by decide +kernel
theorem dX2_init_1 : decode cX2_init 1 = .ok (.invokespecial 3, 3) := by decide +kernel
theorem dX2_init_4 : decode cX2_init 4 = .ok (.aload_n 0, 1) := by decide +kernel
theorem dX2_init_5 : decode cX2_init 5 = .ok (.bipush 6, 2) := by decide +kernel
theorem dX2_init_7 : decode cX2_init 7 = .ok (.newarray .int, 2) := by decide +kernel
theorem dX2_init_9 : decode cX2_init 9 = .ok (.putfield 9, 3) := by decide +kernel
theorem dX2_init_12 : decode cX2_init 12 = .ok (.aload_n 0, 1) := by decide +kernel
theorem dX2_init_13 : decode cX2_init 13 = .ok (.bipush 6, 2) := by decide +kernel
theorem dX2_init_15 : decode cX2_init 15 = .ok (.newarray .int, 2) := by decide +kernel
theorem dX2_init_17 : decode cX2_init 17 = .ok (.putfield 15, 3) := by decide +kernel
theorem dX2_init_20 : decode cX2_init 20 = .ok (.return_, 1) := by decide +kernel
theorem dX2_copyFrom_0 : decode cX2_copyFrom 0 = .ok (.aload_n 0, 1) := by decide +kernel
theorem dX2_copyFrom_1 : decode cX2_copyFrom 1 = .ok (.aload_n 1, 1) := by decide +kernel
theorem dX2_copyFrom_2 : decode cX2_copyFrom 2 = .ok (.getfield 18, 3) := by decide +kernel
theorem dX2_copyFrom_5 : decode cX2_copyFrom 5 = .ok (.putfield 18, 3) := by decide +kernel
theorem dX2_copyFrom_8 : decode cX2_copyFrom 8 = .ok (.aload_n 1, 1) := by decide +kernel
theorem dX2_copyFrom_9 : decode cX2_copyFrom 9 = .ok (.getfield 9, 3) := by decide +kernel
theorem dX2_copyFrom_12 : decode cX2_copyFrom 12 = .ok (.iconst 0, 1) := by decide +kernel
theorem dX2_copyFrom_13 : decode cX2_copyFrom 13 = .ok (.aload_n 0, 1) := by decide +kernel
theorem dX2_copyFrom_14 : decode cX2_copyFrom 14 = .ok (.getfield 9, 3) := by decide +kernel
theorem dX2_copyFrom_17 : decode cX2_copyFrom 17 = .ok (.iconst 0, 1) := by decide +kernel
theorem dX2_copyFrom_18 : decode cX2_copyFrom 18 = .ok (.bipush 6, 2) := by decide +kernel
theorem dX2_copyFrom_20 : decode cX2_copyFrom 20 = .ok (.invokestatic 22, 3) := by decide +kernel
theorem dX2_copyFrom_23 : decode cX2_copyFrom 23 = .ok (.aload_n 1, 1) := by decide +kernel
theorem dX2_copyFrom_24 : decode cX2_copyFrom 24 = .ok (.getfield 15, 3) := by decide +kernel
theorem dX2_copyFrom_27 : decode cX2_copyFrom 27 = .ok (.iconst 0, 1) := by decide +kernel
theorem dX2_copyFrom_28 : decode cX2_copyFrom 28 = .ok (.aload_n 0, 1) := by decide +kernel
theorem dX2_copyFrom_29 : decode cX2_copyFrom 29 = .ok (.getfield 15, 3) := by decide +kernel
theorem dX2_copyFrom_32 : decode cX2_copyFrom 32 = .ok (.iconst 0, 1) := by decide +kernel
theorem dX2_copyFrom_33 : decode cX2_copyFrom 33 = .ok (.bipush 6, 2) := by decide +kernel
theorem dX2_copyFrom_35 : decode cX2_copyFrom 35 = .ok (.invokestatic 22, 3) := by decide +kernel
theorem dX2_copyFrom_38 : decode cX2_copyFrom 38 = .ok (.return_, 1) := by decide +kernel
theorem dX2_hasSecret_0 : decode cX2_hasSecret 0 = .ok (.iload_n 1, 1) := by decide +kernel
theorem dX2_hasSecret_1 : decode cX2_hasSecret 1 = .ok (.ifCond .lt 15, 3) := by decide +kernel
theorem dX2_hasSecret_4 : decode cX2_hasSecret 4 = .ok (.iload_n 1, 1) := by decide +kernel
theorem dX2_hasSecret_5 : decode cX2_hasSecret 5 = .ok (.aload_n 0, 1) := by decide +kernel
theorem dX2_hasSecret_6 : decode cX2_hasSecret 6 = .ok (.getfield 18, 3) := by decide +kernel
theorem dX2_hasSecret_9 : decode cX2_hasSecret 9 = .ok (.if_icmp .ge 7, 3) := by decide +kernel
theorem dX2_hasSecret_12 : decode cX2_hasSecret 12 = .ok (.iconst 1, 1) := by decide +kernel
theorem dX2_hasSecret_13 : decode cX2_hasSecret 13 = .ok (.goto 4, 3) := by decide +kernel
theorem dX2_hasSecret_16 : decode cX2_hasSecret 16 = .ok (.iconst 0, 1) := by decide +kernel
theorem dX2_hasSecret_17 : decode cX2_hasSecret 17 = .ok (.ireturn, 1) := by decide +kernel
theorem dX2_isOut_0 : decode cX2_isOut 0 = .ok (.aload_n 0, 1) := by decide +kernel
theorem dX2_isOut_1 : decode cX2_isOut 1 = .ok (.getfield 9, 3) := by decide +kernel
theorem dX2_isOut_4 : decode cX2_isOut 4 = .ok (.iload_n 1, 1) := by decide +kernel
theorem dX2_isOut_5 : decode cX2_isOut 5 = .ok (.iaload, 1) := by decide +kernel
theorem dX2_isOut_6 : decode cX2_isOut 6 = .ok (.iconst (-1), 1) := by decide +kernel
theorem dX2_isOut_7 : decode cX2_isOut 7 = .ok (.if_icmp .ne 7, 3) := by decide +kernel
theorem dX2_isOut_10 : decode cX2_isOut 10 = .ok (.iconst 1, 1) := by decide +kernel
theorem dX2_isOut_11 : decode cX2_isOut 11 = .ok (.goto 4, 3) := by decide +kernel
theorem dX2_isOut_14 : decode cX2_isOut 14 = .ok (.iconst 0, 1) := by decide +kernel
theorem dX2_isOut_15 : decode cX2_isOut 15 = .ok (.ireturn, 1) := by decide +kernel
theorem dX2_hasHeard_0 : decode cX2_hasHeard 0 = .ok (.aload_n 0, 1) := by decide +kernel
theorem dX2_hasHeard_1 : decode cX2_hasHeard 1 = .ok (.getfield 15, 3) := by decide +kernel
theorem dX2_hasHeard_4 : decode cX2_hasHeard 4 = .ok (.iload_n 2, 1) := by decide +kernel
theorem dX2_hasHeard_5 : decode cX2_hasHeard 5 = .ok (.iaload, 1) := by decide +kernel
theorem dX2_hasHeard_6 : decode cX2_hasHeard 6 = .ok (.iconst 1, 1) := by decide +kernel
theorem dX2_hasHeard_7 : decode cX2_hasHeard 7 = .ok (.iload_n 1, 1) := by decide +kernel
theorem dX2_hasHeard_8 : decode cX2_hasHeard 8 = .ok (.ishl, 1) := by decide +kernel
theorem dX2_hasHeard_9 : decode cX2_hasHeard 9 = .ok (.iand, 1) := by decide +kernel
theorem dX2_hasHeard_10 : decode cX2_hasHeard 10 = .ok (.ifCond .eq 7, 3) := by decide +kernel
theorem dX2_hasHeard_13 : decode cX2_hasHeard 13 = .ok (.iconst 1, 1) := by decide +kernel
theorem dX2_hasHeard_14 : decode cX2_hasHeard 14 = .ok (.goto 4, 3) := by decide +kernel
theorem dX2_hasHeard_17 : decode cX2_hasHeard 17 = .ok (.iconst 0, 1) := by decide +kernel
theorem dX2_hasHeard_18 : decode cX2_hasHeard 18 = .ok (.ireturn, 1) := by decide +kernel
theorem dX2_countKnowers_0 : decode cX2_countKnowers 0 = .ok (.aload_n 0, 1) := by decide +kernel
theorem dX2_countKnowers_1 : decode cX2_countKnowers 1 = .ok (.getfield 15, 3) := by decide +kernel
theorem dX2_countKnowers_4 : decode cX2_countKnowers 4 = .ok (.iload_n 1, 1) := by decide +kernel
theorem dX2_countKnowers_5 : decode cX2_countKnowers 5 = .ok (.iaload, 1) := by decide +kernel
theorem dX2_countKnowers_6 : decode cX2_countKnowers 6 = .ok (.invokestatic 28, 3) := by decide +kernel
theorem dX2_countKnowers_9 : decode cX2_countKnowers 9 = .ok (.ireturn, 1) := by decide +kernel
theorem dX2_countKnownBy_0 : decode cX2_countKnownBy 0 = .ok (.iconst 0, 1) := by decide +kernel
theorem dX2_countKnownBy_1 : decode cX2_countKnownBy 1 = .ok (.istore_n 2, 1) := by decide +kernel
theorem dX2_countKnownBy_2 : decode cX2_countKnownBy 2 = .ok (.iconst 0, 1) := by decide +kernel
theorem dX2_countKnownBy_3 : decode cX2_countKnownBy 3 = .ok (.istore_n 3, 1) := by decide +kernel
theorem dX2_countKnownBy_4 : decode cX2_countKnownBy 4 = .ok (.iload_n 3, 1) := by decide +kernel
theorem dX2_countKnownBy_5 : decode cX2_countKnownBy 5 = .ok (.aload_n 0, 1) := by decide +kernel
theorem dX2_countKnownBy_6 : decode cX2_countKnownBy 6 = .ok (.getfield 18, 3) := by decide +kernel
theorem dX2_countKnownBy_9 : decode cX2_countKnownBy 9 = .ok (.if_icmp .ge 21, 3) := by decide +kernel
theorem dX2_countKnownBy_12 : decode cX2_countKnownBy 12 = .ok (.aload_n 0, 1) := by decide +kernel
theorem dX2_countKnownBy_13 : decode cX2_countKnownBy 13 = .ok (.iload_n 1, 1) := by decide +kernel
theorem dX2_countKnownBy_14 : decode cX2_countKnownBy 14 = .ok (.iload_n 3, 1) := by decide +kernel
theorem dX2_countKnownBy_15 : decode cX2_countKnownBy 15 = .ok (.invokevirtual 34, 3) := by decide +kernel
theorem dX2_countKnownBy_18 : decode cX2_countKnownBy 18 = .ok (.ifCond .eq 6, 3) := by decide +kernel
theorem dX2_countKnownBy_21 : decode cX2_countKnownBy 21 = .ok (.iinc 2 1, 3) := by decide +kernel
theorem dX2_countKnownBy_24 : decode cX2_countKnownBy 24 = .ok (.iinc 3 1, 3) := by decide +kernel
theorem dX2_countKnownBy_27 : decode cX2_countKnownBy 27 = .ok (.goto (-23), 3) := by decide +kernel
theorem dX2_countKnownBy_30 : decode cX2_countKnownBy 30 = .ok (.iload_n 2, 1) := by decide +kernel
theorem dX2_countKnownBy_31 : decode cX2_countKnownBy 31 = .ok (.ireturn, 1) := by decide +kernel
theorem dX2_carriersKnow_0 : decode cX2_carriersKnow 0 = .ok (.iconst 0, 1) := by decide +kernel
theorem dX2_carriersKnow_1 : decode cX2_carriersKnow 1 = .ok (.istore_n 1, 1) := by decide +kernel
theorem dX2_carriersKnow_2 : decode cX2_carriersKnow 2 = .ok (.iload_n 1, 1) := by decide +kernel
theorem dX2_carriersKnow_3 : decode cX2_carriersKnow 3 = .ok (.aload_n 0, 1) := by decide +kernel
theorem dX2_carriersKnow_4 : decode cX2_carriersKnow 4 = .ok (.getfield 18, 3) := by decide +kernel
theorem dX2_carriersKnow_7 : decode cX2_carriersKnow 7 = .ok (.if_icmp .ge 33, 3) := by decide +kernel
theorem dX2_carriersKnow_10 : decode cX2_carriersKnow 10 = .ok (.aload_n 0, 1) := by decide +kernel
theorem dX2_carriersKnow_11 : decode cX2_carriersKnow 11 = .ok (.iload_n 1, 1) := by decide +kernel
theorem dX2_carriersKnow_12 : decode cX2_carriersKnow 12 = .ok (.invokevirtual 38, 3) := by decide +kernel
theorem dX2_carriersKnow_15 : decode cX2_carriersKnow 15 = .ok (.ifCond .ne 19, 3) := by decide +kernel
theorem dX2_carriersKnow_18 : decode cX2_carriersKnow 18 = .ok (.aload_n 0, 1) := by decide +kernel
theorem dX2_carriersKnow_19 : decode cX2_carriersKnow 19 = .ok (.aload_n 0, 1) := by decide +kernel
theorem dX2_carriersKnow_20 : decode cX2_carriersKnow 20 = .ok (.getfield 9, 3) := by decide +kernel
theorem dX2_carriersKnow_23 : decode cX2_carriersKnow 23 = .ok (.iload_n 1, 1) := by decide +kernel
theorem dX2_carriersKnow_24 : decode cX2_carriersKnow 24 = .ok (.iaload, 1) := by decide +kernel
theorem dX2_carriersKnow_25 : decode cX2_carriersKnow 25 = .ok (.iload_n 1, 1) := by decide +kernel
theorem dX2_carriersKnow_26 : decode cX2_carriersKnow 26 = .ok (.invokevirtual 34, 3) := by decide +kernel
theorem dX2_carriersKnow_29 : decode cX2_carriersKnow 29 = .ok (.ifCond .ne 5, 3) := by decide +kernel
theorem dX2_carriersKnow_32 : decode cX2_carriersKnow 32 = .ok (.iconst 0, 1) := by decide +kernel
theorem dX2_carriersKnow_33 : decode cX2_carriersKnow 33 = .ok (.ireturn, 1) := by decide +kernel
theorem dX2_carriersKnow_34 : decode cX2_carriersKnow 34 = .ok (.iinc 1 1, 3) := by decide +kernel
theorem dX2_carriersKnow_37 : decode cX2_carriersKnow 37 = .ok (.goto (-35), 3) := by decide +kernel
theorem dX2_carriersKnow_40 : decode cX2_carriersKnow 40 = .ok (.iconst 1, 1) := by decide +kernel
theorem dX2_carriersKnow_41 : decode cX2_carriersKnow 41 = .ok (.ireturn, 1) := by decide +kernel
theorem dX2_putSecret_0 : decode cX2_putSecret 0 = .ok (.aload_n 0, 1) := by decide +kernel
theorem dX2_putSecret_1 : decode cX2_putSecret 1 = .ok (.getfield 9, 3) := by decide +kernel
theorem dX2_putSecret_4 : decode cX2_putSecret 4 = .ok (.aload_n 0, 1) := by decide +kernel
theorem dX2_putSecret_5 : decode cX2_putSecret 5 = .ok (.getfield 18, 3) := by decide +kernel
theorem dX2_putSecret_8 : decode cX2_putSecret 8 = .ok (.iload_n 1, 1) := by decide +kernel
theorem dX2_putSecret_9 : decode cX2_putSecret 9 = .ok (.iastore, 1) := by decide +kernel
theorem dX2_putSecret_10 : decode cX2_putSecret 10 = .ok (.aload_n 0, 1) := by decide +kernel
theorem dX2_putSecret_11 : decode cX2_putSecret 11 = .ok (.getfield 15, 3) := by decide +kernel
theorem dX2_putSecret_14 : decode cX2_putSecret 14 = .ok (.aload_n 0, 1) := by decide +kernel
theorem dX2_putSecret_15 : decode cX2_putSecret 15 = .ok (.getfield 18, 3) := by decide +kernel
theorem dX2_putSecret_18 : decode cX2_putSecret 18 = .ok (.iconst 1, 1) := by decide +kernel
theorem dX2_putSecret_19 : decode cX2_putSecret 19 = .ok (.iload_n 1, 1) := by decide +kernel
theorem dX2_putSecret_20 : decode cX2_putSecret 20 = .ok (.ishl, 1) := by decide +kernel
theorem dX2_putSecret_21 : decode cX2_putSecret 21 = .ok (.iastore, 1) := by decide +kernel
theorem dX2_putSecret_22 : decode cX2_putSecret 22 = .ok (.aload_n 0, 1) := by decide +kernel
theorem dX2_putSecret_23 : decode cX2_putSecret 23 = .ok (.dup, 1) := by decide +kernel
theorem dX2_putSecret_24 : decode cX2_putSecret 24 = .ok (.getfield 18, 3) := by decide +kernel
theorem dX2_putSecret_27 : decode cX2_putSecret 27 = .ok (.iconst 1, 1) := by decide +kernel
theorem dX2_putSecret_28 : decode cX2_putSecret 28 = .ok (.iadd, 1) := by decide +kernel
theorem dX2_putSecret_29 : decode cX2_putSecret 29 = .ok (.putfield 18, 3) := by decide +kernel
theorem dX2_putSecret_32 : decode cX2_putSecret 32 = .ok (.aload_n 0, 1) := by decide +kernel
theorem dX2_putSecret_33 : decode cX2_putSecret 33 = .ok (.getfield 18, 3) := by decide +kernel
theorem dX2_putSecret_36 : decode cX2_putSecret 36 = .ok (.iconst 1, 1) := by decide +kernel
theorem dX2_putSecret_37 : decode cX2_putSecret 37 = .ok (.isub, 1) := by decide +kernel
theorem dX2_putSecret_38 : decode cX2_putSecret 38 = .ok (.ireturn, 1) := by decide +kernel
theorem dX2_tell_0 : decode cX2_tell 0 = .ok (.aload_n 0, 1) := by decide +kernel
theorem dX2_tell_1 : decode cX2_tell 1 = .ok (.getfield 15, 3) := by decide +kernel
theorem dX2_tell_4 : decode cX2_tell 4 = .ok (.iload_n 2, 1) := by decide +kernel
theorem dX2_tell_5 : decode cX2_tell 5 = .ok (.dup2, 1) := by decide +kernel
theorem dX2_tell_6 : decode cX2_tell 6 = .ok (.iaload, 1) := by decide +kernel
theorem dX2_tell_7 : decode cX2_tell 7 = .ok (.iconst 1, 1) := by decide +kernel
theorem dX2_tell_8 : decode cX2_tell 8 = .ok (.iload_n 1, 1) := by decide +kernel
theorem dX2_tell_9 : decode cX2_tell 9 = .ok (.ishl, 1) := by decide +kernel
theorem dX2_tell_10 : decode cX2_tell 10 = .ok (.ior, 1) := by decide +kernel
theorem dX2_tell_11 : decode cX2_tell 11 = .ok (.iastore, 1) := by decide +kernel
theorem dX2_tell_12 : decode cX2_tell 12 = .ok (.return_, 1) := by decide +kernel
theorem dX2_revealAllOf_0 : decode cX2_revealAllOf 0 = .ok (.iconst 0, 1) := by decide +kernel
theorem dX2_revealAllOf_1 : decode cX2_revealAllOf 1 = .ok (.istore_n 2, 1) := by decide +kernel
theorem dX2_revealAllOf_2 : decode cX2_revealAllOf 2 = .ok (.iload_n 2, 1) := by decide +kernel
theorem dX2_revealAllOf_3 : decode cX2_revealAllOf 3 = .ok (.aload_n 0, 1) := by decide +kernel
theorem dX2_revealAllOf_4 : decode cX2_revealAllOf 4 = .ok (.getfield 18, 3) := by decide +kernel
theorem dX2_revealAllOf_7 : decode cX2_revealAllOf 7 = .ok (.if_icmp .ge 26, 3) := by decide +kernel
theorem dX2_revealAllOf_10 : decode cX2_revealAllOf 10 = .ok (.aload_n 0, 1) := by decide +kernel
theorem dX2_revealAllOf_11 : decode cX2_revealAllOf 11 = .ok (.getfield 9, 3) := by decide +kernel
theorem dX2_revealAllOf_14 : decode cX2_revealAllOf 14 = .ok (.iload_n 2, 1) := by decide +kernel
theorem dX2_revealAllOf_15 : decode cX2_revealAllOf 15 = .ok (.iaload, 1) := by decide +kernel
theorem dX2_revealAllOf_16 : decode cX2_revealAllOf 16 = .ok (.iload_n 1, 1) := by decide +kernel
theorem dX2_revealAllOf_17 : decode cX2_revealAllOf 17 = .ok (.if_icmp .ne 10, 3) := by decide +kernel
theorem dX2_revealAllOf_20 : decode cX2_revealAllOf 20 = .ok (.aload_n 0, 1) := by decide +kernel
theorem dX2_revealAllOf_21 : decode cX2_revealAllOf 21 = .ok (.getfield 9, 3) := by decide +kernel
theorem dX2_revealAllOf_24 : decode cX2_revealAllOf 24 = .ok (.iload_n 2, 1) := by decide +kernel
theorem dX2_revealAllOf_25 : decode cX2_revealAllOf 25 = .ok (.iconst (-1), 1) := by decide +kernel
theorem dX2_revealAllOf_26 : decode cX2_revealAllOf 26 = .ok (.iastore, 1) := by decide +kernel
theorem dX2_revealAllOf_27 : decode cX2_revealAllOf 27 = .ok (.iinc 2 1, 3) := by decide +kernel
theorem dX2_revealAllOf_30 : decode cX2_revealAllOf 30 = .ok (.goto (-28), 3) := by decide +kernel
theorem dX2_revealAllOf_33 : decode cX2_revealAllOf 33 = .ok (.return_, 1) := by decide +kernel
theorem dX3_init_0 : decode cX3_init 0 = .ok (.aload_n 0, 1) := by decide +kernel
theorem dX3_init_1 : decode cX3_init 1 = .ok (.invokespecial 3, 3) := by decide +kernel
theorem dX3_init_4 : decode cX3_init 4 = .ok (.aload_n 0, 1) := by decide +kernel
theorem dX3_init_5 : decode cX3_init 5 = .ok (.bipush 10, 2) := by decide +kernel
theorem dX3_init_7 : decode cX3_init 7 = .ok (.newarray .int, 2) := by decide +kernel
theorem dX3_init_9 : decode cX3_init 9 = .ok (.putfield 9, 3) := by decide +kernel
theorem dX3_init_12 : decode cX3_init 12 = .ok (.aload_n 0, 1) := by decide +kernel
theorem dX3_init_13 : decode cX3_init 13 = .ok (.iconst 5, 1) := by decide +kernel
theorem dX3_init_14 : decode cX3_init 14 = .ok (.newarray .int, 2) := by decide +kernel
theorem dX3_init_16 : decode cX3_init 16 = .ok (.putfield 15, 3) := by decide +kernel
theorem dX3_init_19 : decode cX3_init 19 = .ok (.aload_n 0, 1) := by decide +kernel
theorem dX3_init_20 : decode cX3_init 20 = .ok (.iconst 5, 1) := by decide +kernel
theorem dX3_init_21 : decode cX3_init 21 = .ok (.bipush 6, 2) := by decide +kernel
theorem dX3_init_23 : decode cX3_init 23 = .ok (.multianewarray 18 2, 4) := by decide +kernel
theorem dX3_init_27 : decode cX3_init 27 = .ok (.putfield 20, 3) := by decide +kernel
theorem dX3_init_30 : decode cX3_init 30 = .ok (.aload_n 0, 1) := by decide +kernel
theorem dX3_init_31 : decode cX3_init 31 = .ok (.iconst 5, 1) := by decide +kernel
theorem dX3_init_32 : decode cX3_init 32 = .ok (.newarray .int, 2) := by decide +kernel
theorem dX3_init_34 : decode cX3_init 34 = .ok (.putfield 23, 3) := by decide +kernel
theorem dX3_init_37 : decode cX3_init 37 = .ok (.return_, 1) := by decide +kernel
theorem dX3_copyFrom_0 : decode cX3_copyFrom 0 = .ok (.aload_n 0, 1) := by decide +kernel
theorem dX3_copyFrom_1 : decode cX3_copyFrom 1 = .ok (.aload_n 1, 1) := by decide +kernel
theorem dX3_copyFrom_2 : decode cX3_copyFrom 2 = .ok (.getfield 26, 3) := by decide +kernel
theorem dX3_copyFrom_5 : decode cX3_copyFrom 5 = .ok (.putfield 26, 3) := by decide +kernel
theorem dX3_copyFrom_8 : decode cX3_copyFrom 8 = .ok (.aload_n 0, 1) := by decide +kernel
theorem dX3_copyFrom_9 : decode cX3_copyFrom 9 = .ok (.aload_n 1, 1) := by decide +kernel
theorem dX3_copyFrom_10 : decode cX3_copyFrom 10 = .ok (.getfield 30, 3) := by decide +kernel
theorem dX3_copyFrom_13 : decode cX3_copyFrom 13 = .ok (.putfield 30, 3) := by decide +kernel
theorem dX3_copyFrom_16 : decode cX3_copyFrom 16 = .ok (.aload_n 1, 1) := by decide +kernel
theorem dX3_copyFrom_17 : decode cX3_copyFrom 17 = .ok (.getfield 9, 3) := by decide +kernel
theorem dX3_copyFrom_20 : decode cX3_copyFrom 20 = .ok (.iconst 0, 1) := by decide +kernel
theorem dX3_copyFrom_21 : decode cX3_copyFrom 21 = .ok (.aload_n 0, 1) := by decide +kernel
theorem dX3_copyFrom_22 : decode cX3_copyFrom 22 = .ok (.getfield 9, 3) := by decide +kernel
theorem dX3_copyFrom_25 : decode cX3_copyFrom 25 = .ok (.iconst 0, 1) := by decide +kernel
theorem dX3_copyFrom_26 : decode cX3_copyFrom 26 = .ok (.bipush 10, 2) := by decide +kernel
theorem dX3_copyFrom_28 : decode cX3_copyFrom 28 = .ok (.invokestatic 33, 3) := by decide +kernel
theorem dX3_copyFrom_31 : decode cX3_copyFrom 31 = .ok (.aload_n 1, 1) := by decide +kernel
theorem dX3_copyFrom_32 : decode cX3_copyFrom 32 = .ok (.getfield 15, 3) := by decide +kernel
theorem dX3_copyFrom_35 : decode cX3_copyFrom 35 = .ok (.iconst 0, 1) := by decide +kernel
theorem dX3_copyFrom_36 : decode cX3_copyFrom 36 = .ok (.aload_n 0, 1) := by decide +kernel
theorem dX3_copyFrom_37 : decode cX3_copyFrom 37 = .ok (.getfield 15, 3) := by decide +kernel
theorem dX3_copyFrom_40 : decode cX3_copyFrom 40 = .ok (.iconst 0, 1) := by decide +kernel
theorem dX3_copyFrom_41 : decode cX3_copyFrom 41 = .ok (.iconst 5, 1) := by decide +kernel
theorem dX3_copyFrom_42 : decode cX3_copyFrom 42 = .ok (.invokestatic 33, 3) := by decide +kernel
theorem dX3_copyFrom_45 : decode cX3_copyFrom 45 = .ok (.aload_n 1, 1) := by decide +kernel
theorem dX3_copyFrom_46 : decode cX3_copyFrom 46 = .ok (.getfield 23, 3) := by decide +kernel
theorem dX3_copyFrom_49 : decode cX3_copyFrom 49 = .ok (.iconst 0, 1) := by decide +kernel
theorem dX3_copyFrom_50 : decode cX3_copyFrom 50 = .ok (.aload_n 0, 1) := by decide +kernel
theorem dX3_copyFrom_51 : decode cX3_copyFrom 51 = .ok (.getfield 23, 3) := by decide +kernel
theorem dX3_copyFrom_54 : decode cX3_copyFrom 54 = .ok (.iconst 0, 1) := by decide +kernel
theorem dX3_copyFrom_55 : decode cX3_copyFrom 55 = .ok (.iconst 5, 1) := by decide +kernel
theorem dX3_copyFrom_56 : decode cX3_copyFrom 56 = .ok (.invokestatic 33, 3) := by decide +kernel
theorem dX3_copyFrom_59 : decode cX3_copyFrom 59 = .ok (.iconst 0, 1) := by decide +kernel
theorem dX3_copyFrom_60 : decode cX3_copyFrom 60 = .ok (.istore_n 2, 1) := by decide +kernel
theorem dX3_copyFrom_61 : decode cX3_copyFrom 61 = .ok (.iload_n 2, 1) := by decide +kernel
theorem dX3_copyFrom_62 : decode cX3_copyFrom 62 = .ok (.iconst 5, 1) := by decide +kernel
theorem dX3_copyFrom_63 : decode cX3_copyFrom 63 = .ok (.if_icmp .ge 28, 3) := by decide +kernel
theorem dX3_copyFrom_66 : decode cX3_copyFrom 66 = .ok (.aload_n 1, 1) := by decide +kernel
theorem dX3_copyFrom_67 : decode cX3_copyFrom 67 = .ok (.getfield 20, 3) := by decide +kernel
theorem dX3_copyFrom_70 : decode cX3_copyFrom 70 = .ok (.iload_n 2, 1) := by decide +kernel
theorem dX3_copyFrom_71 : decode cX3_copyFrom 71 = .ok (.aaload, 1) := by decide +kernel
theorem dX3_copyFrom_72 : decode cX3_copyFrom 72 = .ok (.iconst 0, 1) := by decide +kernel
theorem dX3_copyFrom_73 : decode cX3_copyFrom 73 = .ok (.aload_n 0, 1) := by decide +kernel
theorem dX3_copyFrom_74 : decode cX3_copyFrom 74 = .ok (.getfield 20, 3) := by decide +kernel
theorem dX3_copyFrom_77 : decode cX3_copyFrom 77 = .ok (.iload_n 2, 1) := by decide +kernel
theorem dX3_copyFrom_78 : decode cX3_copyFrom 78 = .ok (.aaload, 1) := by decide +kernel
theorem dX3_copyFrom_79 : decode cX3_copyFrom 79 = .ok (.iconst 0, 1) := by decide +kernel
theorem dX3_copyFrom_80 : decode cX3_copyFrom 80 = .ok (.bipush 6, 2) := by decide +kernel
theorem dX3_copyFrom_82 : decode cX3_copyFrom 82 = .ok (.invokestatic 33, 3) := by decide +kernel
theorem dX3_copyFrom_85 : decode cX3_copyFrom 85 = .ok (.iinc 2 1, 3) := by decide +kernel
theorem dX3_copyFrom_88 : decode cX3_copyFrom 88 = .ok (.goto (-27), 3) := by decide +kernel
theorem dX3_copyFrom_91 : decode cX3_copyFrom 91 = .ok (.return_, 1) := by decide +kernel
theorem dX3_hasStop_0 : decode cX3_hasStop 0 = .ok (.iload_n 1, 1) := by decide +kernel
theorem dX3_hasStop_1 : decode cX3_hasStop 1 = .ok (.ifCond .lt 15, 3) := by decide +kernel
theorem dX3_hasStop_4 : decode cX3_hasStop 4 = .ok (.iload_n 1, 1) := by decide +kernel
theorem dX3_hasStop_5 : decode cX3_hasStop 5 = .ok (.aload_n 0, 1) := by decide +kernel
theorem dX3_hasStop_6 : decode cX3_hasStop 6 = .ok (.getfield 26, 3) := by decide +kernel
theorem dX3_hasStop_9 : decode cX3_hasStop 9 = .ok (.if_icmp .ge 7, 3) := by decide +kernel
theorem dX3_hasStop_12 : decode cX3_hasStop 12 = .ok (.iconst 1, 1) := by decide +kernel
theorem dX3_hasStop_13 : decode cX3_hasStop 13 = .ok (.goto 4, 3) := by decide +kernel
theorem dX3_hasStop_16 : decode cX3_hasStop 16 = .ok (.iconst 0, 1) := by decide +kernel
theorem dX3_hasStop_17 : decode cX3_hasStop 17 = .ok (.ireturn, 1) := by decide +kernel
theorem dX3_hasLine_0 : decode cX3_hasLine 0 = .ok (.iload_n 1, 1) := by decide +kernel
theorem dX3_hasLine_1 : decode cX3_hasLine 1 = .ok (.ifCond .lt 15, 3) := by decide +kernel
theorem dX3_hasLine_4 : decode cX3_hasLine 4 = .ok (.iload_n 1, 1) := by decide +kernel
theorem dX3_hasLine_5 : decode cX3_hasLine 5 = .ok (.aload_n 0, 1) := by decide +kernel
theorem dX3_hasLine_6 : decode cX3_hasLine 6 = .ok (.getfield 30, 3) := by decide +kernel
theorem dX3_hasLine_9 : decode cX3_hasLine 9 = .ok (.if_icmp .ge 7, 3) := by decide +kernel
theorem dX3_hasLine_12 : decode cX3_hasLine 12 = .ok (.iconst 1, 1) := by decide +kernel
theorem dX3_hasLine_13 : decode cX3_hasLine 13 = .ok (.goto 4, 3) := by decide +kernel
theorem dX3_hasLine_16 : decode cX3_hasLine 16 = .ok (.iconst 0, 1) := by decide +kernel
theorem dX3_hasLine_17 : decode cX3_hasLine 17 = .ok (.ireturn, 1) := by decide +kernel
theorem dX3_serves_0 : decode cX3_serves 0 = .ok (.aload_n 0, 1) := by decide +kernel
theorem dX3_serves_1 : decode cX3_serves 1 = .ok (.getfield 23, 3) := by decide +kernel
theorem dX3_serves_4 : decode cX3_serves 4 = .ok (.iload_n 1, 1) := by decide +kernel
theorem dX3_serves_5 : decode cX3_serves 5 = .ok (.iaload, 1) := by decide +kernel
theorem dX3_serves_6 : decode cX3_serves 6 = .ok (.iconst 1, 1) := by decide +kernel
theorem dX3_serves_7 : decode cX3_serves 7 = .ok (.iload_n 2, 1) := by decide +kernel
theorem dX3_serves_8 : decode cX3_serves 8 = .ok (.ishl, 1) := by decide +kernel
theorem dX3_serves_9 : decode cX3_serves 9 = .ok (.iand, 1) := by decide +kernel
theorem dX3_serves_10 : decode cX3_serves 10 = .ok (.ifCond .eq 7, 3) := by decide +kernel
theorem dX3_serves_13 : decode cX3_serves 13 = .ok (.iconst 1, 1) := by decide +kernel
theorem dX3_serves_14 : decode cX3_serves 14 = .ok (.goto 4, 3) := by decide +kernel
theorem dX3_serves_17 : decode cX3_serves 17 = .ok (.iconst 0, 1) := by decide +kernel
theorem dX3_serves_18 : decode cX3_serves 18 = .ok (.ireturn, 1) := by decide +kernel
theorem dX3_isEnd_0 : decode cX3_isEnd 0 = .ok (.iconst 0, 1) := by decide +kernel
theorem dX3_isEnd_1 : decode cX3_isEnd 1 = .ok (.istore_n 2, 1) := by decide +kernel
theorem dX3_isEnd_2 : decode cX3_isEnd 2 = .ok (.iload_n 2, 1) := by decide +kernel
theorem dX3_isEnd_3 : decode cX3_isEnd 3 = .ok (.aload_n 0, 1) := by decide +kernel
theorem dX3_isEnd_4 : decode cX3_isEnd 4 = .ok (.getfield 30, 3) := by decide +kernel
theorem dX3_isEnd_7 : decode cX3_isEnd 7 = .ok (.if_icmp .ge 42, 3) := by decide +kernel
theorem dX3_isEnd_10 : decode cX3_isEnd 10 = .ok (.aload_n 0, 1) := by decide +kernel
theorem dX3_isEnd_11 : decode cX3_isEnd 11 = .ok (.getfield 20, 3) := by decide +kernel
theorem dX3_isEnd_14 : decode cX3_isEnd 14 = .ok (.iload_n 2, 1) := by decide +kernel
theorem dX3_isEnd_15 : decode cX3_isEnd 15 = .ok (.aaload, 1) := by decide +kernel
theorem dX3_isEnd_16 : decode cX3_isEnd 16 = .ok (.iconst 0, 1) := by decide +kernel
theorem dX3_isEnd_17 : decode cX3_isEnd 17 = .ok (.iaload, 1) := by decide +kernel
theorem dX3_isEnd_18 : decode cX3_isEnd 18 = .ok (.iload_n 1, 1) := by decide +kernel
theorem dX3_isEnd_19 : decode cX3_isEnd 19 = .ok (.if_icmp .eq 22, 3) := by decide +kernel
theorem dX3_isEnd_22 : decode cX3_isEnd 22 = .ok (.aload_n 0, 1) := by decide +kernel
theorem dX3_isEnd_23 : decode cX3_isEnd 23 = .ok (.getfield 20, 3) := by decide +kernel
theorem dX3_isEnd_26 : decode cX3_isEnd 26 = .ok (.iload_n 2, 1) := by decide +kernel
theorem dX3_isEnd_27 : decode cX3_isEnd 27 = .ok (.aaload, 1) := by decide +kernel
theorem dX3_isEnd_28 : decode cX3_isEnd 28 = .ok (.aload_n 0, 1) := by decide +kernel
theorem dX3_isEnd_29 : decode cX3_isEnd 29 = .ok (.getfield 15, 3) := by decide +kernel
theorem dX3_isEnd_32 : decode cX3_isEnd 32 = .ok (.iload_n 2, 1) := by decide +kernel
theorem dX3_isEnd_33 : decode cX3_isEnd 33 = .ok (.iaload, 1) := by decide +kernel
theorem dX3_isEnd_34 : decode cX3_isEnd 34 = .ok (.iconst 1, 1) := by decide +kernel
theorem dX3_isEnd_35 : decode cX3_isEnd 35 = .ok (.isub, 1) := by decide +kernel
theorem dX3_isEnd_36 : decode cX3_isEnd 36 = .ok (.iaload, 1) := by decide +kernel
theorem dX3_isEnd_37 : decode cX3_isEnd 37 = .ok (.iload_n 1, 1) := by decide +kernel
theorem dX3_isEnd_38 : decode cX3_isEnd 38 = .ok (.if_icmp .ne 5, 3) := by decide +kernel
theorem dX3_isEnd_41 : decode cX3_isEnd 41 = .ok (.iconst 1, 1) := by decide +kernel
theorem dX3_isEnd_42 : decode cX3_isEnd 42 = .ok (.ireturn, 1) := by decide +kernel
theorem dX3_isEnd_43 : decode cX3_isEnd 43 = .ok (.iinc 2 1, 3) := by decide +kernel
theorem dX3_isEnd_46 : decode cX3_isEnd 46 = .ok (.goto (-44), 3) := by decide +kernel
theorem dX3_isEnd_49 : decode cX3_isEnd 49 = .ok (.iconst 0, 1) := by decide +kernel
theorem dX3_isEnd_50 : decode cX3_isEnd 50 = .ok (.ireturn, 1) := by decide +kernel
theorem dX3_positionOn_0 : decode cX3_positionOn 0 = .ok (.iconst 0, 1) := by decide +kernel
theorem dX3_positionOn_1 : decode cX3_positionOn 1 = .ok (.istore_n 3, 1) := by decide +kernel
theorem dX3_positionOn_2 : decode cX3_positionOn 2 = .ok (.iload_n 3, 1) := by decide +kernel
theorem dX3_positionOn_3 : decode cX3_positionOn 3 = .ok (.aload_n 0, 1) := by decide +kernel
theorem dX3_positionOn_4 : decode cX3_positionOn 4 = .ok (.getfield 15, 3) := by decide +kernel
theorem dX3_positionOn_7 : decode cX3_positionOn 7 = .ok (.iload_n 1, 1) := by decide +kernel
theorem dX3_positionOn_8 : decode cX3_positionOn 8 = .ok (.iaload, 1) := by decide +kernel
theorem dX3_positionOn_9 : decode cX3_positionOn 9 = .ok (.if_icmp .ge 23, 3) := by decide +kernel
theorem dX3_positionOn_12 : decode cX3_positionOn 12 = .ok (.aload_n 0, 1) := by decide +kernel
theorem dX3_positionOn_13 : decode cX3_positionOn 13 = .ok (.getfield 20, 3) := by decide +kernel
theorem dX3_positionOn_16 : decode cX3_positionOn 16 = .ok (.iload_n 1, 1) := by decide +kernel
theorem dX3_positionOn_17 : decode cX3_positionOn 17 = .ok (.aaload, 1) := by decide +kernel
theorem dX3_positionOn_18 : decode cX3_positionOn 18 = .ok (.iload_n 3, 1) := by decide +kernel
theorem dX3_positionOn_19 : decode cX3_positionOn 19 = .ok (.iaload, 1) := by decide +kernel
theorem dX3_positionOn_20 : decode cX3_positionOn 20 = .ok (.iload_n 2, 1) := by decide +kernel
theorem dX3_positionOn_21 : decode cX3_positionOn 21 = .ok (.if_icmp .ne 5, 3) := by decide +kernel
theorem dX3_positionOn_24 : decode cX3_positionOn 24 = .ok (.iload_n 3, 1) := by decide +kernel
theorem dX3_positionOn_25 : decode cX3_positionOn 25 = .ok (.ireturn, 1) := by decide +kernel
theorem dX3_positionOn_26 : decode cX3_positionOn 26 = .ok (.iinc 3 1, 3) := by decide +kernel
theorem dX3_positionOn_29 : decode cX3_positionOn 29 = .ok (.goto (-27), 3) := by decide +kernel
theorem dX3_positionOn_32 : decode cX3_positionOn 32 = .ok (.iconst (-1), 1) := by decide +kernel
theorem dX3_positionOn_33 : decode cX3_positionOn 33 = .ok (.ireturn, 1) := by decide +kernel
theorem dX3_putStop_0 : decode cX3_putStop 0 = .ok (.aload_n 0, 1) := by decide +kernel
theorem dX3_putStop_1 : decode cX3_putStop 1 = .ok (.getfield 9, 3) := by decide +kernel
theorem dX3_putStop_4 : decode cX3_putStop 4 = .ok (.aload_n 0, 1) := by decide +kernel
theorem dX3_putStop_5 : decode cX3_putStop 5 = .ok (.getfield 26, 3) := by decide +kernel
theorem dX3_putStop_8 : decode cX3_putStop 8 = .ok (.iload_n 1, 1) := by decide +kernel
theorem dX3_putStop_9 : decode cX3_putStop 9 = .ok (.iastore, 1) := by decide +kernel
theorem dX3_putStop_10 : decode cX3_putStop 10 = .ok (.aload_n 0, 1) := by decide +kernel
theorem dX3_putStop_11 : decode cX3_putStop 11 = .ok (.dup, 1) := by decide +kernel
theorem dX3_putStop_12 : decode cX3_putStop 12 = .ok (.getfield 26, 3) := by decide +kernel
theorem dX3_putStop_15 : decode cX3_putStop 15 = .ok (.iconst 1, 1) := by decide +kernel
theorem dX3_putStop_16 : decode cX3_putStop 16 = .ok (.iadd, 1) := by decide +kernel
theorem dX3_putStop_17 : decode cX3_putStop 17 = .ok (.putfield 26, 3) := by decide +kernel
theorem dX3_putStop_20 : decode cX3_putStop 20 = .ok (.aload_n 0, 1) := by decide +kernel
theorem dX3_putStop_21 : decode cX3_putStop 21 = .ok (.getfield 26, 3) := by decide +kernel
theorem dX3_putStop_24 : decode cX3_putStop 24 = .ok (.iconst 1, 1) := by decide +kernel
theorem dX3_putStop_25 : decode cX3_putStop 25 = .ok (.isub, 1) := by decide +kernel
theorem dX3_putStop_26 : decode cX3_putStop 26 = .ok (.ireturn, 1) := by decide +kernel
theorem dX3_putLine_0 : decode cX3_putLine 0 = .ok (.aload_n 0, 1) := by decide +kernel
theorem dX3_putLine_1 : decode cX3_putLine 1 = .ok (.getfield 30, 3) := by decide +kernel
theorem dX3_putLine_4 : decode cX3_putLine 4 = .ok (.istore_n 3, 1) := by decide +kernel
theorem dX3_putLine_5 : decode cX3_putLine 5 = .ok (.aload_n 0, 1) := by decide +kernel
theorem dX3_putLine_6 : decode cX3_putLine 6 = .ok (.getfield 20, 3) := by decide +kernel
theorem dX3_putLine_9 : decode cX3_putLine 9 = .ok (.iload_n 3, 1) := by decide +kernel
theorem dX3_putLine_10 : decode cX3_putLine 10 = .ok (.aaload, 1) := by decide +kernel
theorem dX3_putLine_11 : decode cX3_putLine 11 = .ok (.iconst 0, 1) := by decide +kernel
theorem dX3_putLine_12 : decode cX3_putLine 12 = .ok (.iload_n 1, 1) := by decide +kernel
theorem dX3_putLine_13 : decode cX3_putLine 13 = .ok (.iastore, 1) := by decide +kernel
theorem dX3_putLine_14 : decode cX3_putLine 14 = .ok (.aload_n 0, 1) := by decide +kernel
theorem dX3_putLine_15 : decode cX3_putLine 15 = .ok (.getfield 20, 3) := by decide +kernel
theorem dX3_putLine_18 : decode cX3_putLine 18 = .ok (.iload_n 3, 1) := by decide +kernel
theorem dX3_putLine_19 : decode cX3_putLine 19 = .ok (.aaload, 1) := by decide +kernel
theorem dX3_putLine_20 : decode cX3_putLine 20 = .ok (.iconst 1, 1) := by decide +kernel
theorem dX3_putLine_21 : decode cX3_putLine 21 = .ok (.iload_n 2, 1) := by decide +kernel
theorem dX3_putLine_22 : decode cX3_putLine 22 = .ok (.iastore, 1) := by decide +kernel
theorem dX3_putLine_23 : decode cX3_putLine 23 = .ok (.aload_n 0, 1) := by decide +kernel
theorem dX3_putLine_24 : decode cX3_putLine 24 = .ok (.getfield 15, 3) := by decide +kernel
theorem dX3_putLine_27 : decode cX3_putLine 27 = .ok (.iload_n 3, 1) := by decide +kernel
theorem dX3_putLine_28 : decode cX3_putLine 28 = .ok (.iconst 2, 1) := by decide +kernel
theorem dX3_putLine_29 : decode cX3_putLine 29 = .ok (.iastore, 1) := by decide +kernel
theorem dX3_putLine_30 : decode cX3_putLine 30 = .ok (.aload_n 0, 1) := by decide +kernel
theorem dX3_putLine_31 : decode cX3_putLine 31 = .ok (.getfield 23, 3) := by decide +kernel
theorem dX3_putLine_34 : decode cX3_putLine 34 = .ok (.iload_n 3, 1) := by decide +kernel
theorem dX3_putLine_35 : decode cX3_putLine 35 = .ok (.iconst 1, 1) := by decide +kernel
theorem dX3_putLine_36 : decode cX3_putLine 36 = .ok (.iload_n 1, 1) := by decide +kernel
theorem dX3_putLine_37 : decode cX3_putLine 37 = .ok (.ishl, 1) := by decide +kernel
theorem dX3_putLine_38 : decode cX3_putLine 38 = .ok (.iconst 1, 1) := by decide +kernel
theorem dX3_putLine_39 : decode cX3_putLine 39 = .ok (.iload_n 2, 1) := by decide +kernel
theorem dX3_putLine_40 : decode cX3_putLine 40 = .ok (.ishl, 1) := by decide +kernel
theorem dX3_putLine_41 : decode cX3_putLine 41 = .ok (.ior, 1) := by decide +kernel
theorem dX3_putLine_42 : decode cX3_putLine 42 = .ok (.iastore, 1) := by decide +kernel
theorem dX3_putLine_43 : decode cX3_putLine 43 = .ok (.aload_n 0, 1) := by decide +kernel
theorem dX3_putLine_44 : decode cX3_putLine 44 = .ok (.dup, 1) := by decide +kernel
theorem dX3_putLine_45 : decode cX3_putLine 45 = .ok (.getfield 30, 3) := by decide +kernel
theorem dX3_putLine_48 : decode cX3_putLine 48 = .ok (.iconst 1, 1) := by decide +kernel
theorem dX3_putLine_49 : decode cX3_putLine 49 = .ok (.iadd, 1) := by decide +kernel
theorem dX3_putLine_50 : decode cX3_putLine 50 = .ok (.putfield 30, 3) := by decide +kernel
theorem dX3_putLine_53 : decode cX3_putLine 53 = .ok (.iload_n 3, 1) := by decide +kernel
theorem dX3_putLine_54 : decode cX3_putLine 54 = .ok (.ireturn, 1) := by decide +kernel
theorem dX3_appendStop_0 : decode cX3_appendStop 0 = .ok (.aload_n 0, 1) := by decide +kernel
theorem dX3_appendStop_1 : decode cX3_appendStop 1 = .ok (.getfield 15, 3) := by decide +kernel
theorem dX3_appendStop_4 : decode cX3_appendStop 4 = .ok (.iload_n 1, 1) := by decide +kernel
theorem dX3_appendStop_5 : decode cX3_appendStop 5 = .ok (.iaload, 1) := by decide +kernel
theorem dX3_appendStop_6 : decode cX3_appendStop 6 = .ok (.istore_n 3, 1) := by decide +kernel
theorem dX3_appendStop_7 : decode cX3_appendStop 7 = .ok (.aload_n 0, 1) := by decide +kernel
theorem dX3_appendStop_8 : decode cX3_appendStop 8 = .ok (.getfield 20, 3) := by decide +kernel
theorem dX3_appendStop_11 : decode cX3_appendStop 11 = .ok (.iload_n 1, 1) := by decide +kernel
theorem dX3_appendStop_12 : decode cX3_appendStop 12 = .ok (.aaload, 1) := by decide +kernel
theorem dX3_appendStop_13 : decode cX3_appendStop 13 = .ok (.iload_n 3, 1) := by decide +kernel
theorem dX3_appendStop_14 : decode cX3_appendStop 14 = .ok (.iload_n 2, 1) := by decide +kernel
theorem dX3_appendStop_15 : decode cX3_appendStop 15 = .ok (.iastore, 1) := by decide +kernel
theorem dX3_appendStop_16 : decode cX3_appendStop 16 = .ok (.aload_n 0, 1) := by decide +kernel
theorem dX3_appendStop_17 : decode cX3_appendStop 17 = .ok (.getfield 23, 3) := by decide +kernel
theorem dX3_appendStop_20 : decode cX3_appendStop 20 = .ok (.iload_n 1, 1) := by decide +kernel
theorem dX3_appendStop_21 : decode cX3_appendStop 21 = .ok (.dup2, 1) := by decide +kernel
theorem dX3_appendStop_22 : decode cX3_appendStop 22 = .ok (.iaload, 1) := by decide +kernel
theorem dX3_appendStop_23 : decode cX3_appendStop 23 = .ok (.iconst 1, 1) := by decide +kernel
theorem dX3_appendStop_24 : decode cX3_appendStop 24 = .ok (.iload_n 2, 1) := by decide +kernel
theorem dX3_appendStop_25 : decode cX3_appendStop 25 = .ok (.ishl, 1) := by decide +kernel
theorem dX3_appendStop_26 : decode cX3_appendStop 26 = .ok (.ior, 1) := by decide +kernel
theorem dX3_appendStop_27 : decode cX3_appendStop 27 = .ok (.iastore, 1) := by decide +kernel
theorem dX3_appendStop_28 : decode cX3_appendStop 28 = .ok (.aload_n 0, 1) := by decide +kernel
theorem dX3_appendStop_29 : decode cX3_appendStop 29 = .ok (.getfield 15, 3) := by decide +kernel
theorem dX3_appendStop_32 : decode cX3_appendStop 32 = .ok (.iload_n 1, 1) := by decide +kernel
theorem dX3_appendStop_33 : decode cX3_appendStop 33 = .ok (.iload_n 3, 1) := by decide +kernel
theorem dX3_appendStop_34 : decode cX3_appendStop 34 = .ok (.iconst 1, 1) := by decide +kernel
theorem dX3_appendStop_35 : decode cX3_appendStop 35 = .ok (.iadd, 1) := by decide +kernel
theorem dX3_appendStop_36 : decode cX3_appendStop 36 = .ok (.iastore, 1) := by decide +kernel
theorem dX3_appendStop_37 : decode cX3_appendStop 37 = .ok (.iload_n 3, 1) := by decide +kernel
theorem dX3_appendStop_38 : decode cX3_appendStop 38 = .ok (.ireturn, 1) := by decide +kernel
theorem dX4_init_0 : decode cX4_init 0 = .ok (.aload_n 0, 1) := by decide +kernel
theorem dX4_init_1 : decode cX4_init 1 = .ok (.invokespecial 3, 3) := by decide +kernel
theorem dX4_init_4 : decode cX4_init 4 = .ok (.aload_n 0, 1) := by decide +kernel
theorem dX4_init_5 : decode cX4_init 5 = .ok (.bipush 8, 2) := by decide +kernel
theorem dX4_init_7 : decode cX4_init 7 = .ok (.anewarray 9, 3) := by decide +kernel
theorem dX4_init_10 : decode cX4_init 10 = .ok (.putfield 11, 3) := by decide +kernel
theorem dX4_init_13 : decode cX4_init 13 = .ok (.iconst 0, 1) := by decide +kernel
theorem dX4_init_14 : decode cX4_init 14 = .ok (.istore_n 1, 1) := by decide +kernel
theorem dX4_init_15 : decode cX4_init 15 = .ok (.iload_n 1, 1) := by decide +kernel
theorem dX4_init_16 : decode cX4_init 16 = .ok (.bipush 8, 2) := by decide +kernel
theorem dX4_init_18 : decode cX4_init 18 = .ok (.if_icmp .ge 22, 3) := by decide +kernel
theorem dX4_init_21 : decode cX4_init 21 = .ok (.aload_n 0, 1) := by decide +kernel
theorem dX4_init_22 : decode cX4_init 22 = .ok (.getfield 11, 3) := by decide +kernel
theorem dX4_init_25 : decode cX4_init 25 = .ok (.iload_n 1, 1) := by decide +kernel
theorem dX4_init_26 : decode cX4_init 26 = .ok (.new 9, 3) := by decide +kernel
theorem dX4_init_29 : decode cX4_init 29 = .ok (.dup, 1) := by decide +kernel
theorem dX4_init_30 : decode cX4_init 30 = .ok (.invokespecial 17, 3) := by decide +kernel
theorem dX4_init_33 : decode cX4_init 33 = .ok (.aastore, 1) := by decide +kernel
theorem dX4_init_34 : decode cX4_init 34 = .ok (.iinc 1 1, 3) := by decide +kernel
theorem dX4_init_37 : decode cX4_init 37 = .ok (.goto (-22), 3) := by decide +kernel
theorem dX4_init_40 : decode cX4_init 40 = .ok (.return_, 1) := by decide +kernel
theorem dX4_remember_0 : decode cX4_remember 0 = .ok (.aload_n 0, 1) := by decide +kernel
theorem dX4_remember_1 : decode cX4_remember 1 = .ok (.getfield 18, 3) := by decide +kernel
theorem dX4_remember_4 : decode cX4_remember 4 = .ok (.bipush 8, 2) := by decide +kernel
theorem dX4_remember_6 : decode cX4_remember 6 = .ok (.if_icmp .ne 26, 3) := by decide +kernel
theorem dX4_remember_9 : decode cX4_remember 9 = .ok (.aload_n 0, 1) := by decide +kernel
theorem dX4_remember_10 : decode cX4_remember 10 = .ok (.aload_n 0, 1) := by decide +kernel
theorem dX4_remember_11 : decode cX4_remember 11 = .ok (.getfield 22, 3) := by decide +kernel
theorem dX4_remember_14 : decode cX4_remember 14 = .ok (.iconst 1, 1) := by decide +kernel
theorem dX4_remember_15 : decode cX4_remember 15 = .ok (.iadd, 1) := by decide +kernel
theorem dX4_remember_16 : decode cX4_remember 16 = .ok (.bipush 8, 2) := by decide +kernel
theorem dX4_remember_18 : decode cX4_remember 18 = .ok (.irem, 1) := by decide +kernel
theorem dX4_remember_19 : decode cX4_remember 19 = .ok (.putfield 22, 3) := by decide +kernel
theorem dX4_remember_22 : decode cX4_remember 22 = .ok (.aload_n 0, 1) := by decide +kernel
theorem dX4_remember_23 : decode cX4_remember 23 = .ok (.dup, 1) := by decide +kernel
theorem dX4_remember_24 : decode cX4_remember 24 = .ok (.getfield 18, 3) := by decide +kernel
theorem dX4_remember_27 : decode cX4_remember 27 = .ok (.iconst 1, 1) := by decide +kernel
theorem dX4_remember_28 : decode cX4_remember 28 = .ok (.isub, 1) := by decide +kernel
theorem dX4_remember_29 : decode cX4_remember 29 = .ok (.putfield 18, 3) := by decide +kernel
theorem dX4_remember_32 : decode cX4_remember 32 = .ok (.aload_n 0, 1) := by decide +kernel
theorem dX4_remember_33 : decode cX4_remember 33 = .ok (.getfield 11, 3) := by decide +kernel
theorem dX4_remember_36 : decode cX4_remember 36 = .ok (.aload_n 0, 1) := by decide +kernel
theorem dX4_remember_37 : decode cX4_remember 37 = .ok (.getfield 22, 3) := by decide +kernel
theorem dX4_remember_40 : decode cX4_remember 40 = .ok (.aload_n 0, 1) := by decide +kernel
theorem dX4_remember_41 : decode cX4_remember 41 = .ok (.getfield 18, 3) := by decide +kernel
theorem dX4_remember_44 : decode cX4_remember 44 = .ok (.iadd, 1) := by decide +kernel
theorem dX4_remember_45 : decode cX4_remember 45 = .ok (.bipush 8, 2) := by decide +kernel
theorem dX4_remember_47 : decode cX4_remember 47 = .ok (.irem, 1) := by decide +kernel
theorem dX4_remember_48 : decode cX4_remember 48 = .ok (.aaload, 1) := by decide +kernel
theorem dX4_remember_49 : decode cX4_remember 49 = .ok (.aload_n 1, 1) := by decide +kernel
theorem dX4_remember_50 : decode cX4_remember 50 = .ok (.invokevirtual 25, 3) := by decide +kernel
theorem dX4_remember_53 : decode cX4_remember 53 = .ok (.aload_n 0, 1) := by decide +kernel
theorem dX4_remember_54 : decode cX4_remember 54 = .ok (.dup, 1) := by decide +kernel
theorem dX4_remember_55 : decode cX4_remember 55 = .ok (.getfield 18, 3) := by decide +kernel
theorem dX4_remember_58 : decode cX4_remember 58 = .ok (.iconst 1, 1) := by decide +kernel
theorem dX4_remember_59 : decode cX4_remember 59 = .ok (.iadd, 1) := by decide +kernel
theorem dX4_remember_60 : decode cX4_remember 60 = .ok (.putfield 18, 3) := by decide +kernel
theorem dX4_remember_63 : decode cX4_remember 63 = .ok (.return_, 1) := by decide +kernel
theorem dX4_takeBack_0 : decode cX4_takeBack 0 = .ok (.aload_n 0, 1) := by decide +kernel
theorem dX4_takeBack_1 : decode cX4_takeBack 1 = .ok (.getfield 18, 3) := by decide +kernel
theorem dX4_takeBack_4 : decode cX4_takeBack 4 = .ok (.ifCond .le 34, 3) := by decide +kernel
theorem dX4_takeBack_7 : decode cX4_takeBack 7 = .ok (.aload_n 0, 1) := by decide +kernel
theorem dX4_takeBack_8 : decode cX4_takeBack 8 = .ok (.dup, 1) := by decide +kernel
theorem dX4_takeBack_9 : decode cX4_takeBack 9 = .ok (.getfield 18, 3) := by decide +kernel
theorem dX4_takeBack_12 : decode cX4_takeBack 12 = .ok (.iconst 1, 1) := by decide +kernel
theorem dX4_takeBack_13 : decode cX4_takeBack 13 = .ok (.isub, 1) := by decide +kernel
theorem dX4_takeBack_14 : decode cX4_takeBack 14 = .ok (.putfield 18, 3) := by decide +kernel
theorem dX4_takeBack_17 : decode cX4_takeBack 17 = .ok (.aload_n 1, 1) := by decide +kernel
theorem dX4_takeBack_18 : decode cX4_takeBack 18 = .ok (.aload_n 0, 1) := by decide +kernel
theorem dX4_takeBack_19 : decode cX4_takeBack 19 = .ok (.getfield 11, 3) := by decide +kernel
theorem dX4_takeBack_22 : decode cX4_takeBack 22 = .ok (.aload_n 0, 1) := by decide +kernel
theorem dX4_takeBack_23 : decode cX4_takeBack 23 = .ok (.getfield 22, 3) := by decide +kernel
theorem dX4_takeBack_26 : decode cX4_takeBack 26 = .ok (.aload_n 0, 1) := by decide +kernel
theorem dX4_takeBack_27 : decode cX4_takeBack 27 = .ok (.getfield 18, 3) := by decide +kernel
theorem dX4_takeBack_30 : decode cX4_takeBack 30 = .ok (.iadd, 1) := by decide +kernel
theorem dX4_takeBack_31 : decode cX4_takeBack 31 = .ok (.bipush 8, 2) := by decide +kernel
theorem dX4_takeBack_33 : decode cX4_takeBack 33 = .ok (.irem, 1) := by decide +kernel
theorem dX4_takeBack_34 : decode cX4_takeBack 34 = .ok (.aaload, 1) := by decide +kernel
theorem dX4_takeBack_35 : decode cX4_takeBack 35 = .ok (.invokevirtual 25, 3) := by decide +kernel
theorem dX4_takeBack_38 : decode cX4_takeBack 38 = .ok (.return_, 1) := by decide +kernel
theorem dX4_forget_0 : decode cX4_forget 0 = .ok (.aload_n 0, 1) := by decide +kernel
theorem dX4_forget_1 : decode cX4_forget 1 = .ok (.iconst 0, 1) := by decide +kernel
theorem dX4_forget_2 : decode cX4_forget 2 = .ok (.putfield 18, 3) := by decide +kernel
theorem dX4_forget_5 : decode cX4_forget 5 = .ok (.return_, 1) := by decide +kernel
theorem dX5_init_0 : decode cX5_init 0 = .ok (.aload_n 0, 1) := by decide +kernel
theorem dX5_init_1 : decode cX5_init 1 = .ok (.invokespecial 3, 3) := by decide +kernel
theorem dX5_init_4 : decode cX5_init 4 = .ok (.aload_n 0, 1) := by decide +kernel
theorem dX5_init_5 : decode cX5_init 5 = .ok (.bipush 10, 2) := by decide +kernel
theorem dX5_init_7 : decode cX5_init 7 = .ok (.newarray .int, 2) := by decide +kernel
theorem dX5_init_9 : decode cX5_init 9 = .ok (.putfield 9, 3) := by decide +kernel
theorem dX5_init_12 : decode cX5_init 12 = .ok (.aload_n 0, 1) := by decide +kernel
theorem dX5_init_13 : decode cX5_init 13 = .ok (.bipush 10, 2) := by decide +kernel
theorem dX5_init_15 : decode cX5_init 15 = .ok (.newarray .int, 2) := by decide +kernel
theorem dX5_init_17 : decode cX5_init 17 = .ok (.putfield 15, 3) := by decide +kernel
theorem dX5_init_20 : decode cX5_init 20 = .ok (.aload_n 0, 1) := by decide +kernel
theorem dX5_init_21 : decode cX5_init 21 = .ok (.iconst 5, 1) := by decide +kernel
theorem dX5_init_22 : decode cX5_init 22 = .ok (.newarray .int, 2) := by decide +kernel
theorem dX5_init_24 : decode cX5_init 24 = .ok (.putfield 18, 3) := by decide +kernel
theorem dX5_init_27 : decode cX5_init 27 = .ok (.aload_n 0, 1) := by decide +kernel
theorem dX5_init_28 : decode cX5_init 28 = .ok (.iconst 5, 1) := by decide +kernel
theorem dX5_init_29 : decode cX5_init 29 = .ok (.newarray .int, 2) := by decide +kernel
theorem dX5_init_31 : decode cX5_init 31 = .ok (.putfield 21, 3) := by decide +kernel
theorem dX5_init_34 : decode cX5_init 34 = .ok (.return_, 1) := by decide +kernel
theorem dX5_stepsBySearch_0 : decode cX5_stepsBySearch 0 = .ok (.aload_n 0, 1) := by decide +kernel
theorem dX5_stepsBySearch_1 : decode cX5_stepsBySearch 1 = .ok (.getfield 9, 3) := by decide +kernel
theorem dX5_stepsBySearch_4 : decode cX5_stepsBySearch 4 = .ok (.iconst (-1), 1) := by decide +kernel
theorem dX5_stepsBySearch_5 : decode cX5_stepsBySearch 5 = .ok (.invokestatic 24, 3) := by decide +kernel
theorem dX5_stepsBySearch_8 : decode cX5_stepsBySearch 8 = .ok (.aload_n 0, 1) := by decide +kernel
theorem dX5_stepsBySearch_9 : decode cX5_stepsBySearch 9 = .ok (.iconst 0, 1) := by decide +kernel
theorem dX5_stepsBySearch_10 : decode cX5_stepsBySearch 10 = .ok (.putfield 30, 3) := by decide +kernel
theorem dX5_stepsBySearch_13 : decode cX5_stepsBySearch 13 = .ok (.aload_n 0, 1) := by decide +kernel
theorem dX5_stepsBySearch_14 : decode cX5_stepsBySearch 14 = .ok (.iload_n 2, 1) := by decide +kernel
theorem dX5_stepsBySearch_15 : decode cX5_stepsBySearch 15 = .ok (.iconst 0, 1) := by decide +kernel
theorem dX5_stepsBySearch_16 : decode cX5_stepsBySearch 16 = .ok (.invokevirtual 34, 3) := by decide +kernel
theorem dX5_stepsBySearch_19 : decode cX5_stepsBySearch 19 = .ok (.iconst 0, 1) := by decide +kernel
theorem dX5_stepsBySearch_20 : decode cX5_stepsBySearch 20 = .ok (.istore 4, 2) := by decide +kernel
theorem dX5_stepsBySearch_22 : decode cX5_stepsBySearch 22 = .ok (.iload 4, 2) := by decide +kernel
theorem dX5_stepsBySearch_24 : decode cX5_stepsBySearch 24 = .ok (.aload_n 0, 1) := by decide +kernel
theorem dX5_stepsBySearch_25 : decode cX5_stepsBySearch 25 = .ok (.getfield 30, 3) := by decide +kernel
theorem dX5_stepsBySearch_28 : decode cX5_stepsBySearch 28 = .ok (.if_icmp .ge 46, 3) := by decide +kernel
theorem dX5_stepsBySearch_31 : decode cX5_stepsBySearch 31 = .ok (.iload 4, 2) := by decide +kernel
theorem dX5_stepsBySearch_33 : decode cX5_stepsBySearch 33 = .ok (.bipush 10, 2) := by decide +kernel
theorem dX5_stepsBySearch_35 : decode cX5_stepsBySearch 35 = .ok (.if_icmp .ge 39, 3) := by decide +kernel
theorem dX5_stepsBySearch_38 : decode cX5_stepsBySearch 38 = .ok (.aload_n 0, 1) := by decide +kernel
theorem dX5_stepsBySearch_39 : decode cX5_stepsBySearch 39 = .ok (.getfield 15, 3) := by decide +kernel
theorem dX5_stepsBySearch_42 : decode cX5_stepsBySearch 42 = .ok (.iload 4, 2) := by decide +kernel
theorem dX5_stepsBySearch_44 : decode cX5_stepsBySearch 44 = .ok (.iaload, 1) := by decide +kernel
theorem dX5_stepsBySearch_45 : decode cX5_stepsBySearch 45 = .ok (.istore 5, 2) := by decide +kernel
theorem dX5_stepsBySearch_47 : decode cX5_stepsBySearch 47 = .ok (.iload 5, 2) := by decide +kernel
theorem dX5_stepsBySearch_49 : decode cX5_stepsBySearch 49 = .ok (.iload_n 3, 1) := by decide +kernel
theorem dX5_stepsBySearch_50 : decode cX5_stepsBySearch 50 = .ok (.if_icmp .ne 11, 3) := by decide +kernel
theorem dX5_stepsBySearch_53 : decode cX5_stepsBySearch 53 = .ok (.aload_n 0, 1) := by decide +kernel
theorem dX5_stepsBySearch_54 : decode cX5_stepsBySearch 54 = .ok (.getfield 9, 3) := by decide +kernel
theorem dX5_stepsBySearch_57 : decode cX5_stepsBySearch 57 = .ok (.iload 5, 2) := by decide +kernel
theorem dX5_stepsBySearch_59 : decode cX5_stepsBySearch 59 = .ok (.iaload, 1) := by decide +kernel
theorem dX5_stepsBySearch_60 : decode cX5_stepsBySearch 60 = .ok (.ireturn, 1) := by decide +kernel
theorem dX5_stepsBySearch_61 : decode cX5_stepsBySearch 61 = .ok (.aload_n 0, 1) := by decide +kernel
theorem dX5_stepsBySearch_62 : decode cX5_stepsBySearch 62 = .ok (.aload_n 1, 1) := by decide +kernel
theorem dX5_stepsBySearch_63 : decode cX5_stepsBySearch 63 = .ok (.iload 5, 2) := by decide +kernel
theorem dX5_stepsBySearch_65 : decode cX5_stepsBySearch 65 = .ok (.invokevirtual 38, 3) := by decide +kernel
theorem dX5_stepsBySearch_68 : decode cX5_stepsBySearch 68 = .ok (.iinc 4 1, 3) := by decide +kernel
theorem dX5_stepsBySearch_71 : decode cX5_stepsBySearch 71 = .ok (.goto (-49), 3) := by decide +kernel
theorem dX5_stepsBySearch_74 : decode cX5_stepsBySearch 74 = .ok (.iconst (-1), 1) := by decide +kernel
theorem dX5_stepsBySearch_75 : decode cX5_stepsBySearch 75 = .ok (.ireturn, 1) := by decide +kernel
theorem dX5_reachNeighbours_0 : decode cX5_reachNeighbours 0 = .ok (.aload_n 0, 1) := by decide +kernel
theorem dX5_reachNeighbours_1 : decode cX5_reachNeighbours 1 = .ok (.getfield 9, 3) := by decide +kernel
theorem dX5_reachNeighbours_4 : decode cX5_reachNeighbours 4 = .ok (.iload_n 2, 1) := by decide +kernel
theorem dX5_reachNeighbours_5 : decode cX5_reachNeighbours 5 = .ok (.iaload, 1) := by decide +kernel
theorem dX5_reachNeighbours_6 : decode cX5_reachNeighbours 6 = .ok (.iconst 1, 1) := by decide +kernel
theorem dX5_reachNeighbours_7 : decode cX5_reachNeighbours 7 = .ok (.iadd, 1) := by decide +kernel
theorem dX5_reachNeighbours_8 : decode cX5_reachNeighbours 8 = .ok (.istore_n 3, 1) := by decide +kernel
theorem dX5_reachNeighbours_9 : decode cX5_reachNeighbours 9 = .ok (.iconst 0, 1) := by decide +kernel
theorem dX5_reachNeighbours_10 : decode cX5_reachNeighbours 10 = .ok (.istore 4, 2) := by decide +kernel
theorem dX5_reachNeighbours_12 : decode cX5_reachNeighbours 12 = .ok (.iload 4, 2) := by decide +kernel
theorem dX5_reachNeighbours_14 : decode cX5_reachNeighbours 14 = .ok (.aload_n 1, 1) := by decide +kernel
theorem dX5_reachNeighbours_15 : decode cX5_reachNeighbours 15 = .ok (.getfield 42, 3) := by decide +kernel
theorem dX5_reachNeighbours_18 : decode cX5_reachNeighbours 18 = .ok (.if_icmp .ge 77, 3) := by decide +kernel
theorem dX5_reachNeighbours_21 : decode cX5_reachNeighbours 21 = .ok (.aload_n 1, 1) := by decide +kernel
theorem dX5_reachNeighbours_22 : decode cX5_reachNeighbours 22 = .ok (.iload 4, 2) := by decide +kernel
theorem dX5_reachNeighbours_24 : decode cX5_reachNeighbours 24 = .ok (.iload_n 2, 1) := by decide +kernel
theorem dX5_reachNeighbours_25 : decode cX5_reachNeighbours 25 = .ok (.invokevirtual 47, 3) := by decide +kernel
theorem dX5_reachNeighbours_28 : decode cX5_reachNeighbours 28 = .ok (.istore 5, 2) := by decide +kernel
theorem dX5_reachNeighbours_30 : decode cX5_reachNeighbours 30 = .ok (.iload 5, 2) := by decide +kernel
theorem dX5_reachNeighbours_32 : decode cX5_reachNeighbours 32 = .ok (.ifCond .le 20, 3) := by decide +kernel
theorem dX5_reachNeighbours_35 : decode cX5_reachNeighbours 35 = .ok (.aload_n 0, 1) := by decide +kernel
theorem dX5_reachNeighbours_36 : decode cX5_reachNeighbours 36 = .ok (.aload_n 1, 1) := by decide +kernel
theorem dX5_reachNeighbours_37 : decode cX5_reachNeighbours 37 = .ok (.getfield 51, 3) := by decide +kernel
theorem dX5_reachNeighbours_40 : decode cX5_reachNeighbours 40 = .ok (.iload 4, 2) := by decide +kernel
theorem dX5_reachNeighbours_42 : decode cX5_reachNeighbours 42 = .ok (.aaload, 1) := by decide +kernel
theorem dX5_reachNeighbours_43 : decode cX5_reachNeighbours 43 = .ok (.iload 5, 2) := by decide +kernel
theorem dX5_reachNeighbours_45 : decode cX5_reachNeighbours 45 = .ok (.iconst 1, 1) := by decide +kernel
theorem dX5_reachNeighbours_46 : decode cX5_reachNeighbours 46 = .ok (.isub, 1) := by decide +kernel
theorem dX5_reachNeighbours_47 : decode cX5_reachNeighbours 47 = .ok (.iaload, 1) := by decide +kernel
theorem dX5_reachNeighbours_48 : decode cX5_reachNeighbours 48 = .ok (.iload_n 3, 1) := by decide +kernel
theorem dX5_reachNeighbours_49 : decode cX5_reachNeighbours 49 = .ok (.invokevirtual 34, 3) := by decide +kernel
theorem dX5_reachNeighbours_52 : decode cX5_reachNeighbours 52 = .ok (.iload 5, 2) := by decide +kernel
theorem dX5_reachNeighbours_54 : decode cX5_reachNeighbours 54 = .ok (.iconst (-1), 1) := by decide +kernel
theorem dX5_reachNeighbours_55 : decode cX5_reachNeighbours 55 = .ok (.if_icmp .eq 34, 3) := by decide +kernel
theorem dX5_reachNeighbours_58 : decode cX5_reachNeighbours 58 = .ok (.iload 5, 2) := by decide +kernel
theorem dX5_reachNeighbours_60 : decode cX5_reachNeighbours 60 = .ok (.iconst 1, 1) := by decide +kernel
theorem dX5_reachNeighbours_61 : decode cX5_reachNeighbours 61 = .ok (.iadd, 1) := by decide +kernel
theorem dX5_reachNeighbours_62 : decode cX5_reachNeighbours 62 = .ok (.aload_n 1, 1) := by decide +kernel
theorem dX5_reachNeighbours_63 : decode cX5_reachNeighbours 63 = .ok (.getfield 55, 3) := by decide +kernel
theorem dX5_reachNeighbours_66 : decode cX5_reachNeighbours 66 = .ok (.iload 4, 2) := by decide +kernel
theorem dX5_reachNeighbours_68 : decode cX5_reachNeighbours 68 = .ok (.iaload, 1) := by decide +kernel
theorem dX5_reachNeighbours_69 : decode cX5_reachNeighbours 69 = .ok (.if_icmp .ge 20, 3) := by decide +kernel
theorem dX5_reachNeighbours_72 : decode cX5_reachNeighbours 72 = .ok (.aload_n 0, 1) := by decide +kernel
theorem dX5_reachNeighbours_73 : decode cX5_reachNeighbours 73 = .ok (.aload_n 1, 1) := by decide +kernel
theorem dX5_reachNeighbours_74 : decode cX5_reachNeighbours 74 = .ok (.getfield 51, 3) := by decide +kernel
theorem dX5_reachNeighbours_77 : decode cX5_reachNeighbours 77 = .ok (.iload 4, 2) := by decide +kernel
theorem dX5_reachNeighbours_79 : decode cX5_reachNeighbours 79 = .ok (.aaload, 1) := by decide +kernel
theorem dX5_reachNeighbours_80 : decode cX5_reachNeighbours 80 = .ok (.iload 5, 2) := by decide +kernel
theorem dX5_reachNeighbours_82 : decode cX5_reachNeighbours 82 = .ok (.iconst 1, 1) := by decide +kernel
theorem dX5_reachNeighbours_83 : decode cX5_reachNeighbours 83 = .ok (.iadd, 1) := by decide +kernel
theorem dX5_reachNeighbours_84 : decode cX5_reachNeighbours 84 = .ok (.iaload, 1) := by decide +kernel
theorem dX5_reachNeighbours_85 : decode cX5_reachNeighbours 85 = .ok (.iload_n 3, 1) := by decide +kernel
theorem dX5_reachNeighbours_86 : decode cX5_reachNeighbours 86 = .ok (.invokevirtual 34, 3) := by decide +kernel
theorem dX5_reachNeighbours_89 : decode cX5_reachNeighbours 89 = .ok (.iinc 4 1, 3) := by decide +kernel
theorem dX5_reachNeighbours_92 : decode cX5_reachNeighbours 92 = .ok (.goto (-80), 3) := by decide +kernel
theorem dX5_reachNeighbours_95 : decode cX5_reachNeighbours 95 = .ok (.return_, 1) := by decide +kernel
theorem dX5_reachStop_0 : decode cX5_reachStop 0 = .ok (.aload_n 0, 1) := by decide +kernel
theorem dX5_reachStop_1 : decode cX5_reachStop 1 = .ok (.getfield 9, 3) := by decide +kernel
theorem dX5_reachStop_4 : decode cX5_reachStop 4 = .ok (.iload_n 1, 1) := by decide +kernel
theorem dX5_reachStop_5 : decode cX5_reachStop 5 = .ok (.iaload, 1) := by decide +kernel
theorem dX5_reachStop_6 : decode cX5_reachStop 6 = .ok (.iconst (-1), 1) := by decide +kernel
theorem dX5_reachStop_7 : decode cX5_reachStop 7 = .ok (.if_icmp .ne 39, 3) := by decide +kernel
theorem dX5_reachStop_10 : decode cX5_reachStop 10 = .ok (.aload_n 0, 1) := by decide +kernel
theorem dX5_reachStop_11 : decode cX5_reachStop 11 = .ok (.getfield 30, 3) := by decide +kernel
theorem dX5_reachStop_14 : decode cX5_reachStop 14 = .ok (.bipush 10, 2) := by decide +kernel
theorem dX5_reachStop_16 : decode cX5_reachStop 16 = .ok (.if_icmp .ge 30, 3) := by decide +kernel
theorem dX5_reachStop_19 : decode cX5_reachStop 19 = .ok (.aload_n 0, 1) := by decide +kernel
theorem dX5_reachStop_20 : decode cX5_reachStop 20 = .ok (.getfield 9, 3) := by decide +kernel
theorem dX5_reachStop_23 : decode cX5_reachStop 23 = .ok (.iload_n 1, 1) := by decide +kernel
theorem dX5_reachStop_24 : decode cX5_reachStop 24 = .ok (.iload_n 2, 1) := by decide +kernel
theorem dX5_reachStop_25 : decode cX5_reachStop 25 = .ok (.iastore, 1) := by decide +kernel
theorem dX5_reachStop_26 : decode cX5_reachStop 26 = .ok (.aload_n 0, 1) := by decide +kernel
theorem dX5_reachStop_27 : decode cX5_reachStop 27 = .ok (.getfield 15, 3) := by decide +kernel
theorem dX5_reachStop_30 : decode cX5_reachStop 30 = .ok (.aload_n 0, 1) := by decide +kernel
theorem dX5_reachStop_31 : decode cX5_reachStop 31 = .ok (.getfield 30, 3) := by decide +kernel
theorem dX5_reachStop_34 : decode cX5_reachStop 34 = .ok (.iload_n 1, 1) := by decide +kernel
theorem dX5_reachStop_35 : decode cX5_reachStop 35 = .ok (.iastore, 1) := by decide +kernel
theorem dX5_reachStop_36 : decode cX5_reachStop 36 = .ok (.aload_n 0, 1) := by decide +kernel
theorem dX5_reachStop_37 : decode cX5_reachStop 37 = .ok (.dup, 1) := by decide +kernel
theorem dX5_reachStop_38 : decode cX5_reachStop 38 = .ok (.getfield 30, 3) := by decide +kernel
theorem dX5_reachStop_41 : decode cX5_reachStop 41 = .ok (.iconst 1, 1) := by decide +kernel
theorem dX5_reachStop_42 : decode cX5_reachStop 42 = .ok (.iadd, 1) := by decide +kernel
theorem dX5_reachStop_43 : decode cX5_reachStop 43 = .ok (.putfield 30, 3) := by decide +kernel
theorem dX5_reachStop_46 : decode cX5_reachStop 46 = .ok (.return_, 1) := by decide +kernel
theorem dX5_stepsByRelaxation_0 : decode cX5_stepsByRelaxation 0 = .ok (.aload_n 0, 1) := by decide +kernel
theorem dX5_stepsByRelaxation_1 : decode cX5_stepsByRelaxation 1 = .ok (.getfield 9, 3) := by decide +kernel
theorem dX5_stepsByRelaxation_4 : decode cX5_stepsByRelaxation 4 = .ok (.iconst (-1), 1) := by decide +kernel
theorem dX5_stepsByRelaxation_5 : decode cX5_stepsByRelaxation 5 = .ok (.invokestatic 24, 3) := by decide +kernel
theorem dX5_stepsByRelaxation_8 : decode cX5_stepsByRelaxation 8 = .ok (.aload_n 0, 1) := by decide +kernel
theorem dX5_stepsByRelaxation_9 : decode cX5_stepsByRelaxation 9 = .ok (.getfield 9, 3) := by decide +kernel
theorem dX5_stepsByRelaxation_12 : decode cX5_stepsByRelaxation 12 = .ok (.iload_n 2, 1) := by decide +kernel
theorem dX5_stepsByRelaxation_13 : decode cX5_stepsByRelaxation 13 = .ok (.iconst 0, 1) := by decide +kernel
theorem dX5_stepsByRelaxation_14 : decode cX5_stepsByRelaxation 14 = .ok (.iastore, 1) := by decide +kernel
theorem dX5_stepsByRelaxation_15 : decode cX5_stepsByRelaxation 15 = .ok (.iconst 1, 1) := by decide +kernel
theorem dX5_stepsByRelaxation_16 : decode cX5_stepsByRelaxation 16 = .ok (.istore 4, 2) := by decide +kernel
theorem dX5_stepsByRelaxation_18 : decode cX5_stepsByRelaxation 18 = .ok (.iconst 0, 1) := by decide +kernel
theorem dX5_stepsByRelaxation_19 : decode cX5_stepsByRelaxation 19 = .ok (.istore 5, 2) := by decide +kernel
theorem dX5_stepsByRelaxation_21 : decode cX5_stepsByRelaxation 21 = .ok (.iload 4, 2) := by decide +kernel
theorem dX5_stepsByRelaxation_23 : decode cX5_stepsByRelaxation 23 = .ok (.ifCond .eq 23, 3) := by decide +kernel
theorem dX5_stepsByRelaxation_26 : decode cX5_stepsByRelaxation 26 = .ok (.iload 5, 2) := by decide +kernel
theorem dX5_stepsByRelaxation_28 : decode cX5_stepsByRelaxation 28 = .ok (.bipush 10, 2) := by decide +kernel
theorem dX5_stepsByRelaxation_30 : decode cX5_stepsByRelaxation 30 = .ok (.if_icmp .ge 16, 3) := by decide +kernel
theorem dX5_stepsByRelaxation_33 : decode cX5_stepsByRelaxation 33 = .ok (.aload_n 0, 1) := by decide +kernel
theorem dX5_stepsByRelaxation_34 : decode cX5_stepsByRelaxation 34 = .ok (.aload_n 1, 1) := by decide +kernel
theorem dX5_stepsByRelaxation_35 : decode cX5_stepsByRelaxation 35 = .ok (.invokevirtual 58, 3) := by decide +kernel
theorem dX5_stepsByRelaxation_38 : decode cX5_stepsByRelaxation 38 = .ok (.istore 4, 2) := by decide +kernel
theorem dX5_stepsByRelaxation_40 : decode cX5_stepsByRelaxation 40 = .ok (.iinc 5 1, 3) := by decide +kernel
theorem dX5_stepsByRelaxation_43 : decode cX5_stepsByRelaxation 43 = .ok (.goto (-22), 3) := by decide +kernel
theorem dX5_stepsByRelaxation_46 : decode cX5_stepsByRelaxation 46 = .ok (.aload_n 0, 1) := by decide +kernel
theorem dX5_stepsByRelaxation_47 : decode cX5_stepsByRelaxation 47 = .ok (.getfield 9, 3) := by decide +kernel
theorem dX5_stepsByRelaxation_50 : decode cX5_stepsByRelaxation 50 = .ok (.iload_n 3, 1) := by decide +kernel
theorem dX5_stepsByRelaxation_51 : decode cX5_stepsByRelaxation 51 = .ok (.iaload, 1) := by decide +kernel
theorem dX5_stepsByRelaxation_52 : decode cX5_stepsByRelaxation 52 = .ok (.ireturn, 1) := by decide +kernel
theorem dX5_relaxAll_0 : decode cX5_relaxAll 0 = .ok (.iconst 0, 1) := by decide +kernel
theorem dX5_relaxAll_1 : decode cX5_relaxAll 1 = .ok (.istore_n 2, 1) := by decide +kernel
theorem dX5_relaxAll_2 : decode cX5_relaxAll 2 = .ok (.iconst 0, 1) := by decide +kernel
theorem dX5_relaxAll_3 : decode cX5_relaxAll 3 = .ok (.istore_n 3, 1) := by decide +kernel
theorem dX5_relaxAll_4 : decode cX5_relaxAll 4 = .ok (.iload_n 3, 1) := by decide +kernel
theorem dX5_relaxAll_5 : decode cX5_relaxAll 5 = .ok (.aload_n 1, 1) := by decide +kernel
theorem dX5_relaxAll_6 : decode cX5_relaxAll 6 = .ok (.getfield 42, 3) := by decide +kernel
theorem dX5_relaxAll_9 : decode cX5_relaxAll 9 = .ok (.if_icmp .ge 93, 3) := by decide +kernel
theorem dX5_relaxAll_12 : decode cX5_relaxAll 12 = .ok (.iconst 1, 1) := by decide +kernel
theorem dX5_relaxAll_13 : decode cX5_relaxAll 13 = .ok (.istore 4, 2) := by decide +kernel
theorem dX5_relaxAll_15 : decode cX5_relaxAll 15 = .ok (.iload 4, 2) := by decide +kernel
theorem dX5_relaxAll_17 : decode cX5_relaxAll 17 = .ok (.aload_n 1, 1) := by decide +kernel
theorem dX5_relaxAll_18 : decode cX5_relaxAll 18 = .ok (.getfield 55, 3) := by decide +kernel
theorem dX5_relaxAll_21 : decode cX5_relaxAll 21 = .ok (.iload_n 3, 1) := by decide +kernel
theorem dX5_relaxAll_22 : decode cX5_relaxAll 22 = .ok (.iaload, 1) := by decide +kernel
theorem dX5_relaxAll_23 : decode cX5_relaxAll 23 = .ok (.if_icmp .ge 73, 3) := by decide +kernel
theorem dX5_relaxAll_26 : decode cX5_relaxAll 26 = .ok (.aload_n 1, 1) := by decide +kernel
theorem dX5_relaxAll_27 : decode cX5_relaxAll 27 = .ok (.getfield 51, 3) := by decide +kernel
theorem dX5_relaxAll_30 : decode cX5_relaxAll 30 = .ok (.iload_n 3, 1) := by decide +kernel
theorem dX5_relaxAll_31 : decode cX5_relaxAll 31 = .ok (.aaload, 1) := by decide +kernel
theorem dX5_relaxAll_32 : decode cX5_relaxAll 32 = .ok (.iload 4, 2) := by decide +kernel
theorem dX5_relaxAll_34 : decode cX5_relaxAll 34 = .ok (.iconst 1, 1) := by decide +kernel
theorem dX5_relaxAll_35 : decode cX5_relaxAll 35 = .ok (.isub, 1) := by decide +kernel
theorem dX5_relaxAll_36 : decode cX5_relaxAll 36 = .ok (.iaload, 1) := by decide +kernel
theorem dX5_relaxAll_37 : decode cX5_relaxAll 37 = .ok (.istore 5, 2) := by decide +kernel
theorem dX5_relaxAll_39 : decode cX5_relaxAll 39 = .ok (.aload_n 1, 1) := by decide +kernel
theorem dX5_relaxAll_40 : decode cX5_relaxAll 40 = .ok (.getfield 51, 3) := by decide +kernel
theorem dX5_relaxAll_43 : decode cX5_relaxAll 43 = .ok (.iload_n 3, 1) := by decide +kernel
theorem dX5_relaxAll_44 : decode cX5_relaxAll 44 = .ok (.aaload, 1) := by decide +kernel
theorem dX5_relaxAll_45 : decode cX5_relaxAll 45 = .ok (.iload 4, 2) := by decide +kernel
theorem dX5_relaxAll_47 : decode cX5_relaxAll 47 = .ok (.iaload, 1) := by decide +kernel
theorem dX5_relaxAll_48 : decode cX5_relaxAll 48 = .ok (.istore 6, 2) := by decide +kernel
theorem dX5_relaxAll_50 : decode cX5_relaxAll 50 = .ok (.aload_n 0, 1) := by decide +kernel
theorem dX5_relaxAll_51 : decode cX5_relaxAll 51 = .ok (.iload 5, 2) := by decide +kernel
theorem dX5_relaxAll_53 : decode cX5_relaxAll 53 = .ok (.iload 6, 2) := by decide +kernel
theorem dX5_relaxAll_55 : decode cX5_relaxAll 55 = .ok (.invokevirtual 62, 3) := by decide +kernel
theorem dX5_relaxAll_58 : decode cX5_relaxAll 58 = .ok (.istore 7, 2) := by decide +kernel
theorem dX5_relaxAll_60 : decode cX5_relaxAll 60 = .ok (.aload_n 0, 1) := by decide +kernel
theorem dX5_relaxAll_61 : decode cX5_relaxAll 61 = .ok (.iload 6, 2) := by decide +kernel
theorem dX5_relaxAll_63 : decode cX5_relaxAll 63 = .ok (.iload 5, 2) := by decide +kernel
theorem dX5_relaxAll_65 : decode cX5_relaxAll 65 = .ok (.invokevirtual 62, 3) := by decide +kernel
theorem dX5_relaxAll_68 : decode cX5_relaxAll 68 = .ok (.istore 8, 2) := by decide +kernel
theorem dX5_relaxAll_70 : decode cX5_relaxAll 70 = .ok (.iload_n 2, 1) := by decide +kernel
theorem dX5_relaxAll_71 : decode cX5_relaxAll 71 = .ok (.ifCond .ne 13, 3) := by decide +kernel
theorem dX5_relaxAll_74 : decode cX5_relaxAll 74 = .ok (.iload 7, 2) := by decide +kernel
theorem dX5_relaxAll_76 : decode cX5_relaxAll 76 = .ok (.ifCond .ne 8, 3) := by decide +kernel
theorem dX5_relaxAll_79 : decode cX5_relaxAll 79 = .ok (.iload 8, 2) := by decide +kernel
theorem dX5_relaxAll_81 : decode cX5_relaxAll 81 = .ok (.ifCond .eq 7, 3) := by decide +kernel
theorem dX5_relaxAll_84 : decode cX5_relaxAll 84 = .ok (.iconst 1, 1) := by decide +kernel
theorem dX5_relaxAll_85 : decode cX5_relaxAll 85 = .ok (.goto 4, 3) := by decide +kernel
theorem dX5_relaxAll_88 : decode cX5_relaxAll 88 = .ok (.iconst 0, 1) := by decide +kernel
theorem dX5_relaxAll_89 : decode cX5_relaxAll 89 = .ok (.istore_n 2, 1) := by decide +kernel
theorem dX5_relaxAll_90 : decode cX5_relaxAll 90 = .ok (.iinc 4 1, 3) := by decide +kernel
theorem dX5_relaxAll_93 : decode cX5_relaxAll 93 = .ok (.goto (-78), 3) := by decide +kernel
theorem dX5_relaxAll_96 : decode cX5_relaxAll 96 = .ok (.iinc 3 1, 3) := by decide +kernel
theorem dX5_relaxAll_99 : decode cX5_relaxAll 99 = .ok (.goto (-95), 3) := by decide +kernel
theorem dX5_relaxAll_102 : decode cX5_relaxAll 102 = .ok (.iload_n 2, 1) := by decide +kernel
theorem dX5_relaxAll_103 : decode cX5_relaxAll 103 = .ok (.ireturn, 1) := by decide +kernel
theorem dX5_relax_0 : decode cX5_relax 0 = .ok (.aload_n 0, 1) := by decide +kernel
theorem dX5_relax_1 : decode cX5_relax 1 = .ok (.getfield 9, 3) := by decide +kernel
theorem dX5_relax_4 : decode cX5_relax 4 = .ok (.iload_n 1, 1) := by decide +kernel
theorem dX5_relax_5 : decode cX5_relax 5 = .ok (.iaload, 1) := by decide +kernel
theorem dX5_relax_6 : decode cX5_relax 6 = .ok (.iconst (-1), 1) := by decide +kernel
theorem dX5_relax_7 : decode cX5_relax 7 = .ok (.if_icmp .ne 5, 3) := by decide +kernel
theorem dX5_relax_10 : decode cX5_relax 10 = .ok (.iconst 0, 1) := by decide +kernel
theorem dX5_relax_11 : decode cX5_relax 11 = .ok (.ireturn, 1) := by decide +kernel
theorem dX5_relax_12 : decode cX5_relax 12 = .ok (.aload_n 0, 1) := by decide +kernel
theorem dX5_relax_13 : decode cX5_relax 13 = .ok (.getfield 9, 3) := by decide +kernel
theorem dX5_relax_16 : decode cX5_relax 16 = .ok (.iload_n 1, 1) := by decide +kernel
theorem dX5_relax_17 : decode cX5_relax 17 = .ok (.iaload, 1) := by decide +kernel
theorem dX5_relax_18 : decode cX5_relax 18 = .ok (.iconst 1, 1) := by decide +kernel
theorem dX5_relax_19 : decode cX5_relax 19 = .ok (.iadd, 1) := by decide +kernel
theorem dX5_relax_20 : decode cX5_relax 20 = .ok (.istore_n 3, 1) := by decide +kernel
theorem dX5_relax_21 : decode cX5_relax 21 = .ok (.aload_n 0, 1) := by decide +kernel
theorem dX5_relax_22 : decode cX5_relax 22 = .ok (.getfield 9, 3) := by decide +kernel
theorem dX5_relax_25 : decode cX5_relax 25 = .ok (.iload_n 2, 1) := by decide +kernel
theorem dX5_relax_26 : decode cX5_relax 26 = .ok (.iaload, 1) := by decide +kernel
theorem dX5_relax_27 : decode cX5_relax 27 = .ok (.iconst (-1), 1) := by decide +kernel
theorem dX5_relax_28 : decode cX5_relax 28 = .ok (.if_icmp .eq 15, 3) := by decide +kernel
theorem dX5_relax_31 : decode cX5_relax 31 = .ok (.aload_n 0, 1) := by decide +kernel
theorem dX5_relax_32 : decode cX5_relax 32 = .ok (.getfield 9, 3) := by decide +kernel
theorem dX5_relax_35 : decode cX5_relax 35 = .ok (.iload_n 2, 1) := by decide +kernel
theorem dX5_relax_36 : decode cX5_relax 36 = .ok (.iaload, 1) := by decide +kernel
theorem dX5_relax_37 : decode cX5_relax 37 = .ok (.iload_n 3, 1) := by decide +kernel
theorem dX5_relax_38 : decode cX5_relax 38 = .ok (.if_icmp .gt 5, 3) := by decide +kernel
theorem dX5_relax_41 : decode cX5_relax 41 = .ok (.iconst 0, 1) := by decide +kernel
theorem dX5_relax_42 : decode cX5_relax 42 = .ok (.ireturn, 1) := by decide +kernel
theorem dX5_relax_43 : decode cX5_relax 43 = .ok (.aload_n 0, 1) := by decide +kernel
theorem dX5_relax_44 : decode cX5_relax 44 = .ok (.getfield 9, 3) := by decide +kernel
theorem dX5_relax_47 : decode cX5_relax 47 = .ok (.iload_n 2, 1) := by decide +kernel
theorem dX5_relax_48 : decode cX5_relax 48 = .ok (.iload_n 3, 1) := by decide +kernel
theorem dX5_relax_49 : decode cX5_relax 49 = .ok (.iastore, 1) := by decide +kernel
theorem dX5_relax_50 : decode cX5_relax 50 = .ok (.iconst 1, 1) := by decide +kernel
theorem dX5_relax_51 : decode cX5_relax 51 = .ok (.ireturn, 1) := by decide +kernel
theorem dX5_linesBySearch_0 : decode cX5_linesBySearch 0 = .ok (.iload_n 2, 1) := by decide +kernel
theorem dX5_linesBySearch_1 : decode cX5_linesBySearch 1 = .ok (.iload_n 3, 1) := by decide +kernel
theorem dX5_linesBySearch_2 : decode cX5_linesBySearch 2 = .ok (.if_icmp .ne 5, 3) := by decide +kernel
theorem dX5_linesBySearch_5 : decode cX5_linesBySearch 5 = .ok (.iconst 0, 1) := by decide +kernel
theorem dX5_linesBySearch_6 : decode cX5_linesBySearch 6 = .ok (.ireturn, 1) := by decide +kernel
theorem dX5_linesBySearch_7 : decode cX5_linesBySearch 7 = .ok (.aload_n 0, 1) := by decide +kernel
theorem dX5_linesBySearch_8 : decode cX5_linesBySearch 8 = .ok (.getfield 18, 3) := by decide +kernel
theorem dX5_linesBySearch_11 : decode cX5_linesBySearch 11 = .ok (.iconst (-1), 1) := by decide +kernel
theorem dX5_linesBySearch_12 : decode cX5_linesBySearch 12 = .ok (.invokestatic 24, 3) := by decide +kernel
theorem dX5_linesBySearch_15 : decode cX5_linesBySearch 15 = .ok (.aload_n 0, 1) := by decide +kernel
theorem dX5_linesBySearch_16 : decode cX5_linesBySearch 16 = .ok (.iconst 0, 1) := by decide +kernel
theorem dX5_linesBySearch_17 : decode cX5_linesBySearch 17 = .ok (.putfield 30, 3) := by decide +kernel
theorem dX5_linesBySearch_20 : decode cX5_linesBySearch 20 = .ok (.aload_n 0, 1) := by decide +kernel
theorem dX5_linesBySearch_21 : decode cX5_linesBySearch 21 = .ok (.aload_n 1, 1) := by decide +kernel
theorem dX5_linesBySearch_22 : decode cX5_linesBySearch 22 = .ok (.iconst 1, 1) := by decide +kernel
theorem dX5_linesBySearch_23 : decode cX5_linesBySearch 23 = .ok (.iload_n 2, 1) := by decide +kernel
theorem dX5_linesBySearch_24 : decode cX5_linesBySearch 24 = .ok (.ishl, 1) := by decide +kernel
theorem dX5_linesBySearch_25 : decode cX5_linesBySearch 25 = .ok (.iconst 0, 1) := by decide +kernel
theorem dX5_linesBySearch_26 : decode cX5_linesBySearch 26 = .ok (.invokevirtual 66, 3) := by decide +kernel
theorem dX5_linesBySearch_29 : decode cX5_linesBySearch 29 = .ok (.iconst 0, 1) := by decide +kernel
theorem dX5_linesBySearch_30 : decode cX5_linesBySearch 30 = .ok (.istore 4, 2) := by decide +kernel
theorem dX5_linesBySearch_32 : decode cX5_linesBySearch 32 = .ok (.iload 4, 2) := by decide +kernel
theorem dX5_linesBySearch_34 : decode cX5_linesBySearch 34 = .ok (.aload_n 0, 1) := by decide +kernel
theorem dX5_linesBySearch_35 : decode cX5_linesBySearch 35 = .ok (.getfield 30, 3) := by decide +kernel
theorem dX5_linesBySearch_38 : decode cX5_linesBySearch 38 = .ok (.if_icmp .ge 63, 3) := by decide +kernel
theorem dX5_linesBySearch_41 : decode cX5_linesBySearch 41 = .ok (.iload 4, 2) := by decide +kernel
theorem dX5_linesBySearch_43 : decode cX5_linesBySearch 43 = .ok (.iconst 5, 1) := by decide +kernel
theorem dX5_linesBySearch_44 : decode cX5_linesBySearch 44 = .ok (.if_icmp .ge 57, 3) := by decide +kernel
theorem dX5_linesBySearch_47 : decode cX5_linesBySearch 47 = .ok (.aload_n 0, 1) := by decide +kernel
theorem dX5_linesBySearch_48 : decode cX5_linesBySearch 48 = .ok (.getfield 21, 3) := by decide +kernel
theorem dX5_linesBySearch_51 : decode cX5_linesBySearch 51 = .ok (.iload 4, 2) := by decide +kernel
theorem dX5_linesBySearch_53 : decode cX5_linesBySearch 53 = .ok (.iaload, 1) := by decide +kernel
theorem dX5_linesBySearch_54 : decode cX5_linesBySearch 54 = .ok (.istore 5, 2) := by decide +kernel
theorem dX5_linesBySearch_56 : decode cX5_linesBySearch 56 = .ok (.aload_n 1, 1) := by decide +kernel
theorem dX5_linesBySearch_57 : decode cX5_linesBySearch 57 = .ok (.iload 5, 2) := by decide +kernel
theorem dX5_linesBySearch_59 : decode cX5_linesBySearch 59 = .ok (.iload_n 3, 1) := by decide +kernel
theorem dX5_linesBySearch_60 : decode cX5_linesBySearch 60 = .ok (.invokevirtual 70, 3) := by decide +kernel
theorem dX5_linesBySearch_63 : decode cX5_linesBySearch 63 = .ok (.ifCond .eq 11, 3) := by decide +kernel
theorem dX5_linesBySearch_66 : decode cX5_linesBySearch 66 = .ok (.aload_n 0, 1) := by decide +kernel
theorem dX5_linesBySearch_67 : decode cX5_linesBySearch 67 = .ok (.getfield 18, 3) := by decide +kernel
theorem dX5_linesBySearch_70 : decode cX5_linesBySearch 70 = .ok (.iload 5, 2) := by decide +kernel
theorem dX5_linesBySearch_72 : decode cX5_linesBySearch 72 = .ok (.iaload, 1) := by decide +kernel
theorem dX5_linesBySearch_73 : decode cX5_linesBySearch 73 = .ok (.ireturn, 1) := by decide +kernel
theorem dX5_linesBySearch_74 : decode cX5_linesBySearch 74 = .ok (.aload_n 0, 1) := by decide +kernel
theorem dX5_linesBySearch_75 : decode cX5_linesBySearch 75 = .ok (.aload_n 1, 1) := by decide +kernel
theorem dX5_linesBySearch_76 : decode cX5_linesBySearch 76 = .ok (.aload_n 1, 1) := by decide +kernel
theorem dX5_linesBySearch_77 : decode cX5_linesBySearch 77 = .ok (.getfield 73, 3) := by decide +kernel
theorem dX5_linesBySearch_80 : decode cX5_linesBySearch 80 = .ok (.iload 5, 2) := by decide +kernel
theorem dX5_linesBySearch_82 : decode cX5_linesBySearch 82 = .ok (.iaload, 1) := by decide +kernel
theorem dX5_linesBySearch_83 : decode cX5_linesBySearch 83 = .ok (.aload_n 0, 1) := by decide +kernel
theorem dX5_linesBySearch_84 : decode cX5_linesBySearch 84 = .ok (.getfield 18, 3) := by decide +kernel
theorem dX5_linesBySearch_87 : decode cX5_linesBySearch 87 = .ok (.iload 5, 2) := by decide +kernel
theorem dX5_linesBySearch_89 : decode cX5_linesBySearch 89 = .ok (.iaload, 1) := by decide +kernel
theorem dX5_linesBySearch_90 : decode cX5_linesBySearch 90 = .ok (.iconst 1, 1) := by decide +kernel
theorem dX5_linesBySearch_91 : decode cX5_linesBySearch 91 = .ok (.iadd, 1) := by decide +kernel
theorem dX5_linesBySearch_92 : decode cX5_linesBySearch 92 = .ok (.invokevirtual 66, 3) := by decide +kernel
theorem dX5_linesBySearch_95 : decode cX5_linesBySearch 95 = .ok (.iinc 4 1, 3) := by decide +kernel
theorem dX5_linesBySearch_98 : decode cX5_linesBySearch 98 = .ok (.goto (-66), 3) := by decide +kernel
theorem dX5_linesBySearch_101 : decode cX5_linesBySearch 101 = .ok (.iconst (-1), 1) := by decide +kernel
theorem dX5_linesBySearch_102 : decode cX5_linesBySearch 102 = .ok (.ireturn, 1) := by decide +kernel
theorem dX5_reachLines_0 : decode cX5_reachLines 0 = .ok (.iconst 0, 1) := by decide +kernel
theorem dX5_reachLines_1 : decode cX5_reachLines 1 = .ok (.istore 4, 2) := by decide +kernel
theorem dX5_reachLines_3 : decode cX5_reachLines 3 = .ok (.iload 4, 2) := by decide +kernel
theorem dX5_reachLines_5 : decode cX5_reachLines 5 = .ok (.aload_n 1, 1) := by decide +kernel
theorem dX5_reachLines_6 : decode cX5_reachLines 6 = .ok (.getfield 42, 3) := by decide +kernel
theorem dX5_reachLines_9 : decode cX5_reachLines 9 = .ok (.if_icmp .ge 69, 3) := by decide +kernel
theorem dX5_reachLines_12 : decode cX5_reachLines 12 = .ok (.aload_n 0, 1) := by decide +kernel
theorem dX5_reachLines_13 : decode cX5_reachLines 13 = .ok (.getfield 18, 3) := by decide +kernel
theorem dX5_reachLines_16 : decode cX5_reachLines 16 = .ok (.iload 4, 2) := by decide +kernel
theorem dX5_reachLines_18 : decode cX5_reachLines 18 = .ok (.iaload, 1) := by decide +kernel
theorem dX5_reachLines_19 : decode cX5_reachLines 19 = .ok (.iconst (-1), 1) := by decide +kernel
theorem dX5_reachLines_20 : decode cX5_reachLines 20 = .ok (.if_icmp .ne 52, 3) := by decide +kernel
theorem dX5_reachLines_23 : decode cX5_reachLines 23 = .ok (.aload_n 1, 1) := by decide +kernel
theorem dX5_reachLines_24 : decode cX5_reachLines 24 = .ok (.getfield 73, 3) := by decide +kernel
theorem dX5_reachLines_27 : decode cX5_reachLines 27 = .ok (.iload 4, 2) := by decide +kernel
theorem dX5_reachLines_29 : decode cX5_reachLines 29 = .ok (.iaload, 1) := by decide +kernel
theorem dX5_reachLines_30 : decode cX5_reachLines 30 = .ok (.iload_n 2, 1) := by decide +kernel
theorem dX5_reachLines_31 : decode cX5_reachLines 31 = .ok (.iand, 1) := by decide +kernel
theorem dX5_reachLines_32 : decode cX5_reachLines 32 = .ok (.ifCond .eq 40, 3) := by decide +kernel
theorem dX5_reachLines_35 : decode cX5_reachLines 35 = .ok (.aload_n 0, 1) := by decide +kernel
theorem dX5_reachLines_36 : decode cX5_reachLines 36 = .ok (.getfield 30, 3) := by decide +kernel
theorem dX5_reachLines_39 : decode cX5_reachLines 39 = .ok (.iconst 5, 1) := by decide +kernel
theorem dX5_reachLines_40 : decode cX5_reachLines 40 = .ok (.if_icmp .ge 32, 3) := by decide +kernel
theorem dX5_reachLines_43 : decode cX5_reachLines 43 = .ok (.aload_n 0, 1) := by decide +kernel
theorem dX5_reachLines_44 : decode cX5_reachLines 44 = .ok (.getfield 18, 3) := by decide +kernel
theorem dX5_reachLines_47 : decode cX5_reachLines 47 = .ok (.iload 4, 2) := by decide +kernel
theorem dX5_reachLines_49 : decode cX5_reachLines 49 = .ok (.iload_n 3, 1) := by decide +kernel
theorem dX5_reachLines_50 : decode cX5_reachLines 50 = .ok (.iastore, 1) := by decide +kernel
theorem dX5_reachLines_51 : decode cX5_reachLines 51 = .ok (.aload_n 0, 1) := by decide +kernel
theorem dX5_reachLines_52 : decode cX5_reachLines 52 = .ok (.getfield 21, 3) := by decide +kernel
theorem dX5_reachLines_55 : decode cX5_reachLines 55 = .ok (.aload_n 0, 1) := by decide +kernel
theorem dX5_reachLines_56 : decode cX5_reachLines 56 = .ok (.getfield 30, 3) := by decide +kernel
theorem dX5_reachLines_59 : decode cX5_reachLines 59 = .ok (.iload 4, 2) := by decide +kernel
theorem dX5_reachLines_61 : decode cX5_reachLines 61 = .ok (.iastore, 1) := by decide +kernel
theorem dX5_reachLines_62 : decode cX5_reachLines 62 = .ok (.aload_n 0, 1) := by decide +kernel
theorem dX5_reachLines_63 : decode cX5_reachLines 63 = .ok (.dup, 1) := by decide +kernel
theorem dX5_reachLines_64 : decode cX5_reachLines 64 = .ok (.getfield 30, 3) := by decide +kernel
theorem dX5_reachLines_67 : decode cX5_reachLines 67 = .ok (.iconst 1, 1) := by decide +kernel
theorem dX5_reachLines_68 : decode cX5_reachLines 68 = .ok (.iadd, 1) := by decide +kernel
theorem dX5_reachLines_69 : decode cX5_reachLines 69 = .ok (.putfield 30, 3) := by decide +kernel
theorem dX5_reachLines_72 : decode cX5_reachLines 72 = .ok (.iinc 4 1, 3) := by decide +kernel
theorem dX5_reachLines_75 : decode cX5_reachLines 75 = .ok (.goto (-72), 3) := by decide +kernel
theorem dX5_reachLines_78 : decode cX5_reachLines 78 = .ok (.return_, 1) := by decide +kernel
theorem dX5_linesByGrowth_0 : decode cX5_linesByGrowth 0 = .ok (.iload_n 2, 1) := by decide +kernel
theorem dX5_linesByGrowth_1 : decode cX5_linesByGrowth 1 = .ok (.iload_n 3, 1) := by decide +kernel
theorem dX5_linesByGrowth_2 : decode cX5_linesByGrowth 2 = .ok (.if_icmp .ne 5, 3) := by decide +kernel
theorem dX5_linesByGrowth_5 : decode cX5_linesByGrowth 5 = .ok (.iconst 0, 1) := by decide +kernel
theorem dX5_linesByGrowth_6 : decode cX5_linesByGrowth 6 = .ok (.ireturn, 1) := by decide +kernel
theorem dX5_linesByGrowth_7 : decode cX5_linesByGrowth 7 = .ok (.iconst 1, 1) := by decide +kernel
theorem dX5_linesByGrowth_8 : decode cX5_linesByGrowth 8 = .ok (.iload_n 2, 1) := by decide +kernel
theorem dX5_linesByGrowth_9 : decode cX5_linesByGrowth 9 = .ok (.ishl, 1) := by decide +kernel
theorem dX5_linesByGrowth_10 : decode cX5_linesByGrowth 10 = .ok (.istore 4, 2) := by decide +kernel
theorem dX5_linesByGrowth_12 : decode cX5_linesByGrowth 12 = .ok (.iconst 1, 1) := by decide +kernel
theorem dX5_linesByGrowth_13 : decode cX5_linesByGrowth 13 = .ok (.istore 5, 2) := by decide +kernel
theorem dX5_linesByGrowth_15 : decode cX5_linesByGrowth 15 = .ok (.iload 5, 2) := by decide +kernel
theorem dX5_linesByGrowth_17 : decode cX5_linesByGrowth 17 = .ok (.iconst 5, 1) := by decide +kernel
theorem dX5_linesByGrowth_18 : decode cX5_linesByGrowth 18 = .ok (.if_icmp .gt 32, 3) := by decide +kernel
theorem dX5_linesByGrowth_21 : decode cX5_linesByGrowth 21 = .ok (.aload_n 0, 1) := by decide +kernel
theorem dX5_linesByGrowth_22 : decode cX5_linesByGrowth 22 = .ok (.aload_n 1, 1) := by decide +kernel
theorem dX5_linesByGrowth_23 : decode cX5_linesByGrowth 23 = .ok (.iload 4, 2) := by decide +kernel
theorem dX5_linesByGrowth_25 : decode cX5_linesByGrowth 25 = .ok (.invokevirtual 76, 3) := by decide +kernel
theorem dX5_linesByGrowth_28 : decode cX5_linesByGrowth 28 = .ok (.istore 4, 2) := by decide +kernel
theorem dX5_linesByGrowth_30 : decode cX5_linesByGrowth 30 = .ok (.iload 4, 2) := by decide +kernel
theorem dX5_linesByGrowth_32 : decode cX5_linesByGrowth 32 = .ok (.iconst 1, 1) := by decide +kernel
theorem dX5_linesByGrowth_33 : decode cX5_linesByGrowth 33 = .ok (.iload_n 3, 1) := by decide +kernel
theorem dX5_linesByGrowth_34 : decode cX5_linesByGrowth 34 = .ok (.ishl, 1) := by decide +kernel
theorem dX5_linesByGrowth_35 : decode cX5_linesByGrowth 35 = .ok (.iand, 1) := by decide +kernel
theorem dX5_linesByGrowth_36 : decode cX5_linesByGrowth 36 = .ok (.ifCond .eq 8, 3) := by decide +kernel
theorem dX5_linesByGrowth_39 : decode cX5_linesByGrowth 39 = .ok (.iload 5, 2) := by decide +kernel
theorem dX5_linesByGrowth_41 : decode cX5_linesByGrowth 41 = .ok (.iconst 1, 1) := by decide +kernel
theorem dX5_linesByGrowth_42 : decode cX5_linesByGrowth 42 = .ok (.isub, 1) := by decide +kernel
theorem dX5_linesByGrowth_43 : decode cX5_linesByGrowth 43 = .ok (.ireturn, 1) := by decide +kernel
theorem dX5_linesByGrowth_44 : decode cX5_linesByGrowth 44 = .ok (.iinc 5 1, 3) := by decide +kernel
theorem dX5_linesByGrowth_47 : decode cX5_linesByGrowth 47 = .ok (.goto (-32), 3) := by decide +kernel
theorem dX5_linesByGrowth_50 : decode cX5_linesByGrowth 50 = .ok (.iconst (-1), 1) := by decide +kernel
theorem dX5_linesByGrowth_51 : decode cX5_linesByGrowth 51 = .ok (.ireturn, 1) := by decide +kernel
theorem dX5_grown_0 : decode cX5_grown 0 = .ok (.iload_n 2, 1) := by decide +kernel
theorem dX5_grown_1 : decode cX5_grown 1 = .ok (.istore_n 3, 1) := by decide +kernel
theorem dX5_grown_2 : decode cX5_grown 2 = .ok (.iconst 0, 1) := by decide +kernel
theorem dX5_grown_3 : decode cX5_grown 3 = .ok (.istore 4, 2) := by decide +kernel
theorem dX5_grown_5 : decode cX5_grown 5 = .ok (.iload 4, 2) := by decide +kernel
theorem dX5_grown_7 : decode cX5_grown 7 = .ok (.aload_n 1, 1) := by decide +kernel
theorem dX5_grown_8 : decode cX5_grown 8 = .ok (.getfield 42, 3) := by decide +kernel
theorem dX5_grown_11 : decode cX5_grown 11 = .ok (.if_icmp .ge 31, 3) := by decide +kernel
theorem dX5_grown_14 : decode cX5_grown 14 = .ok (.aload_n 1, 1) := by decide +kernel
theorem dX5_grown_15 : decode cX5_grown 15 = .ok (.getfield 73, 3) := by decide +kernel
theorem dX5_grown_18 : decode cX5_grown 18 = .ok (.iload 4, 2) := by decide +kernel
theorem dX5_grown_20 : decode cX5_grown 20 = .ok (.iaload, 1) := by decide +kernel
theorem dX5_grown_21 : decode cX5_grown 21 = .ok (.iload_n 2, 1) := by decide +kernel
theorem dX5_grown_22 : decode cX5_grown 22 = .ok (.iand, 1) := by decide +kernel
theorem dX5_grown_23 : decode cX5_grown 23 = .ok (.ifCond .eq 13, 3) := by decide +kernel
theorem dX5_grown_26 : decode cX5_grown 26 = .ok (.iload_n 3, 1) := by decide +kernel
theorem dX5_grown_27 : decode cX5_grown 27 = .ok (.aload_n 1, 1) := by decide +kernel
theorem dX5_grown_28 : decode cX5_grown 28 = .ok (.getfield 73, 3) := by decide +kernel
theorem dX5_grown_31 : decode cX5_grown 31 = .ok (.iload 4, 2) := by decide +kernel
theorem dX5_grown_33 : decode cX5_grown 33 = .ok (.iaload, 1) := by decide +kernel
theorem dX5_grown_34 : decode cX5_grown 34 = .ok (.ior, 1) := by decide +kernel
theorem dX5_grown_35 : decode cX5_grown 35 = .ok (.istore_n 3, 1) := by decide +kernel
theorem dX5_grown_36 : decode cX5_grown 36 = .ok (.iinc 4 1, 3) := by decide +kernel
theorem dX5_grown_39 : decode cX5_grown 39 = .ok (.goto (-34), 3) := by decide +kernel
theorem dX5_grown_42 : decode cX5_grown 42 = .ok (.iload_n 3, 1) := by decide +kernel
theorem dX5_grown_43 : decode cX5_grown 43 = .ok (.ireturn, 1) := by decide +kernel
theorem dX5_methodsAgree_0 : decode cX5_methodsAgree 0 = .ok (.iconst 0, 1) := by decide +kernel
theorem dX5_methodsAgree_1 : decode cX5_methodsAgree 1 = .ok (.istore_n 2, 1) := by decide +kernel
theorem dX5_methodsAgree_2 : decode cX5_methodsAgree 2 = .ok (.iload_n 2, 1) := by decide +kernel
theorem dX5_methodsAgree_3 : decode cX5_methodsAgree 3 = .ok (.aload_n 1, 1) := by decide +kernel
theorem dX5_methodsAgree_4 : decode cX5_methodsAgree 4 = .ok (.getfield 80, 3) := by decide +kernel
theorem dX5_methodsAgree_7 : decode cX5_methodsAgree 7 = .ok (.if_icmp .ge 61, 3) := by decide +kernel
theorem dX5_methodsAgree_10 : decode cX5_methodsAgree 10 = .ok (.iconst 0, 1) := by decide +kernel
theorem dX5_methodsAgree_11 : decode cX5_methodsAgree 11 = .ok (.istore_n 3, 1) := by decide +kernel
theorem dX5_methodsAgree_12 : decode cX5_methodsAgree 12 = .ok (.iload_n 3, 1) := by decide +kernel
theorem dX5_methodsAgree_13 : decode cX5_methodsAgree 13 = .ok (.aload_n 1, 1) := by decide +kernel
theorem dX5_methodsAgree_14 : decode cX5_methodsAgree 14 = .ok (.getfield 80, 3) := by decide +kernel
theorem dX5_methodsAgree_17 : decode cX5_methodsAgree 17 = .ok (.if_icmp .ge 45, 3) := by decide +kernel
theorem dX5_methodsAgree_20 : decode cX5_methodsAgree 20 = .ok (.aload_n 0, 1) := by decide +kernel
theorem dX5_methodsAgree_21 : decode cX5_methodsAgree 21 = .ok (.aload_n 1, 1) := by decide +kernel
theorem dX5_methodsAgree_22 : decode cX5_methodsAgree 22 = .ok (.iload_n 2, 1) := by decide +kernel
theorem dX5_methodsAgree_23 : decode cX5_methodsAgree 23 = .ok (.iload_n 3, 1) := by decide +kernel
theorem dX5_methodsAgree_24 : decode cX5_methodsAgree 24 = .ok (.invokevirtual 83, 3) := by decide +kernel
theorem dX5_methodsAgree_27 : decode cX5_methodsAgree 27 = .ok (.aload_n 0, 1) := by decide +kernel
theorem dX5_methodsAgree_28 : decode cX5_methodsAgree 28 = .ok (.aload_n 1, 1) := by decide +kernel
theorem dX5_methodsAgree_29 : decode cX5_methodsAgree 29 = .ok (.iload_n 2, 1) := by decide +kernel
theorem dX5_methodsAgree_30 : decode cX5_methodsAgree 30 = .ok (.iload_n 3, 1) := by decide +kernel
theorem dX5_methodsAgree_31 : decode cX5_methodsAgree 31 = .ok (.invokevirtual 87, 3) := by decide +kernel
theorem dX5_methodsAgree_34 : decode cX5_methodsAgree 34 = .ok (.if_icmp .ne 20, 3) := by decide +kernel
theorem dX5_methodsAgree_37 : decode cX5_methodsAgree 37 = .ok (.aload_n 0, 1) := by decide +kernel
theorem dX5_methodsAgree_38 : decode cX5_methodsAgree 38 = .ok (.aload_n 1, 1) := by decide +kernel
theorem dX5_methodsAgree_39 : decode cX5_methodsAgree 39 = .ok (.iload_n 2, 1) := by decide +kernel
theorem dX5_methodsAgree_40 : decode cX5_methodsAgree 40 = .ok (.iload_n 3, 1) := by decide +kernel
theorem dX5_methodsAgree_41 : decode cX5_methodsAgree 41 = .ok (.invokevirtual 90, 3) := by decide +kernel
theorem dX5_methodsAgree_44 : decode cX5_methodsAgree 44 = .ok (.aload_n 0, 1) := by decide +kernel
theorem dX5_methodsAgree_45 : decode cX5_methodsAgree 45 = .ok (.aload_n 1, 1) := by decide +kernel
theorem dX5_methodsAgree_46 : decode cX5_methodsAgree 46 = .ok (.iload_n 2, 1) := by decide +kernel
theorem dX5_methodsAgree_47 : decode cX5_methodsAgree 47 = .ok (.iload_n 3, 1) := by decide +kernel
theorem dX5_methodsAgree_48 : decode cX5_methodsAgree 48 = .ok (.invokevirtual 93, 3) := by decide +kernel
theorem dX5_methodsAgree_51 : decode cX5_methodsAgree 51 = .ok (.if_icmp .eq 5, 3) := by decide +kernel
theorem dX5_methodsAgree_54 : decode cX5_methodsAgree 54 = .ok (.iconst 0, 1) := by decide +kernel
theorem dX5_methodsAgree_55 : decode cX5_methodsAgree 55 = .ok (.ireturn, 1) := by decide +kernel
theorem dX5_methodsAgree_56 : decode cX5_methodsAgree 56 = .ok (.iinc 3 1, 3) := by decide +kernel
theorem dX5_methodsAgree_59 : decode cX5_methodsAgree 59 = .ok (.goto (-47), 3) := by decide +kernel
theorem dX5_methodsAgree_62 : decode cX5_methodsAgree 62 = .ok (.iinc 2 1, 3) := by decide +kernel
theorem dX5_methodsAgree_65 : decode cX5_methodsAgree 65 = .ok (.goto (-63), 3) := by decide +kernel
theorem dX5_methodsAgree_68 : decode cX5_methodsAgree 68 = .ok (.iconst 1, 1) := by decide +kernel
theorem dX5_methodsAgree_69 : decode cX5_methodsAgree 69 = .ok (.ireturn, 1) := by decide +kernel
theorem dX6_init_0 : decode cX6_init 0 = .ok (.aload_n 0, 1) := by decide +kernel
theorem dX6_init_1 : decode cX6_init 1 = .ok (.invokespecial 3, 3) := by decide +kernel
theorem dX6_init_4 : decode cX6_init 4 = .ok (.aload_n 0, 1) := by decide +kernel
theorem dX6_init_5 : decode cX6_init 5 = .ok (.bipush 8, 2) := by decide +kernel
theorem dX6_init_7 : decode cX6_init 7 = .ok (.newarray .int, 2) := by decide +kernel
theorem dX6_init_9 : decode cX6_init 9 = .ok (.putfield 9, 3) := by decide +kernel
theorem dX6_init_12 : decode cX6_init 12 = .ok (.aload_n 0, 1) := by decide +kernel
theorem dX6_init_13 : decode cX6_init 13 = .ok (.bipush 8, 2) := by decide +kernel
theorem dX6_init_15 : decode cX6_init 15 = .ok (.newarray .int, 2) := by decide +kernel
theorem dX6_init_17 : decode cX6_init 17 = .ok (.putfield 15, 3) := by decide +kernel
theorem dX6_init_20 : decode cX6_init 20 = .ok (.aload_n 0, 1) := by decide +kernel
theorem dX6_init_21 : decode cX6_init 21 = .ok (.bipush 8, 2) := by decide +kernel
theorem dX6_init_23 : decode cX6_init 23 = .ok (.newarray .int, 2) := by decide +kernel
theorem dX6_init_25 : decode cX6_init 25 = .ok (.putfield 18, 3) := by decide +kernel
theorem dX6_init_28 : decode cX6_init 28 = .ok (.aload_n 0, 1) := by decide +kernel
theorem dX6_init_29 : decode cX6_init 29 = .ok (.bipush 8, 2) := by decide +kernel
theorem dX6_init_31 : decode cX6_init 31 = .ok (.newarray .int, 2) := by decide +kernel
theorem dX6_init_33 : decode cX6_init 33 = .ok (.putfield 21, 3) := by decide +kernel
theorem dX6_init_36 : decode cX6_init 36 = .ok (.aload_n 0, 1) := by decide +kernel
theorem dX6_init_37 : decode cX6_init 37 = .ok (.bipush 8, 2) := by decide +kernel
theorem dX6_init_39 : decode cX6_init 39 = .ok (.newarray .int, 2) := by decide +kernel
theorem dX6_init_41 : decode cX6_init 41 = .ok (.putfield 24, 3) := by decide +kernel
theorem dX6_init_44 : decode cX6_init 44 = .ok (.aload_n 0, 1) := by decide +kernel
theorem dX6_init_45 : decode cX6_init 45 = .ok (.bipush 8, 2) := by decide +kernel
theorem dX6_init_47 : decode cX6_init 47 = .ok (.newarray .int, 2) := by decide +kernel
theorem dX6_init_49 : decode cX6_init 49 = .ok (.putfield 27, 3) := by decide +kernel
theorem dX6_init_52 : decode cX6_init 52 = .ok (.return_, 1) := by decide +kernel
theorem dX6_copyFrom_0 : decode cX6_copyFrom 0 = .ok (.aload_n 0, 1) := by decide +kernel
theorem dX6_copyFrom_1 : decode cX6_copyFrom 1 = .ok (.aload_n 1, 1) := by decide +kernel
theorem dX6_copyFrom_2 : decode cX6_copyFrom 2 = .ok (.getfield 30, 3) := by decide +kernel
theorem dX6_copyFrom_5 : decode cX6_copyFrom 5 = .ok (.putfield 30, 3) := by decide +kernel
theorem dX6_copyFrom_8 : decode cX6_copyFrom 8 = .ok (.aload_n 1, 1) := by decide +kernel
theorem dX6_copyFrom_9 : decode cX6_copyFrom 9 = .ok (.getfield 9, 3) := by decide +kernel
theorem dX6_copyFrom_12 : decode cX6_copyFrom 12 = .ok (.iconst 0, 1) := by decide +kernel
theorem dX6_copyFrom_13 : decode cX6_copyFrom 13 = .ok (.aload_n 0, 1) := by decide +kernel
theorem dX6_copyFrom_14 : decode cX6_copyFrom 14 = .ok (.getfield 9, 3) := by decide +kernel
theorem dX6_copyFrom_17 : decode cX6_copyFrom 17 = .ok (.iconst 0, 1) := by decide +kernel
theorem dX6_copyFrom_18 : decode cX6_copyFrom 18 = .ok (.bipush 8, 2) := by decide +kernel
theorem dX6_copyFrom_20 : decode cX6_copyFrom 20 = .ok (.invokestatic 34, 3) := by decide +kernel
theorem dX6_copyFrom_23 : decode cX6_copyFrom 23 = .ok (.aload_n 1, 1) := by decide +kernel
theorem dX6_copyFrom_24 : decode cX6_copyFrom 24 = .ok (.getfield 15, 3) := by decide +kernel
theorem dX6_copyFrom_27 : decode cX6_copyFrom 27 = .ok (.iconst 0, 1) := by decide +kernel
theorem dX6_copyFrom_28 : decode cX6_copyFrom 28 = .ok (.aload_n 0, 1) := by decide +kernel
theorem dX6_copyFrom_29 : decode cX6_copyFrom 29 = .ok (.getfield 15, 3) := by decide +kernel
theorem dX6_copyFrom_32 : decode cX6_copyFrom 32 = .ok (.iconst 0, 1) := by decide +kernel
theorem dX6_copyFrom_33 : decode cX6_copyFrom 33 = .ok (.bipush 8, 2) := by decide +kernel
theorem dX6_copyFrom_35 : decode cX6_copyFrom 35 = .ok (.invokestatic 34, 3) := by decide +kernel
theorem dX6_copyFrom_38 : decode cX6_copyFrom 38 = .ok (.aload_n 1, 1) := by decide +kernel
theorem dX6_copyFrom_39 : decode cX6_copyFrom 39 = .ok (.getfield 18, 3) := by decide +kernel
theorem dX6_copyFrom_42 : decode cX6_copyFrom 42 = .ok (.iconst 0, 1) := by decide +kernel
theorem dX6_copyFrom_43 : decode cX6_copyFrom 43 = .ok (.aload_n 0, 1) := by decide +kernel
theorem dX6_copyFrom_44 : decode cX6_copyFrom 44 = .ok (.getfield 18, 3) := by decide +kernel
theorem dX6_copyFrom_47 : decode cX6_copyFrom 47 = .ok (.iconst 0, 1) := by decide +kernel
theorem dX6_copyFrom_48 : decode cX6_copyFrom 48 = .ok (.bipush 8, 2) := by decide +kernel
theorem dX6_copyFrom_50 : decode cX6_copyFrom 50 = .ok (.invokestatic 34, 3) := by decide +kernel
theorem dX6_copyFrom_53 : decode cX6_copyFrom 53 = .ok (.aload_n 1, 1) := by decide +kernel
theorem dX6_copyFrom_54 : decode cX6_copyFrom 54 = .ok (.getfield 21, 3) := by decide +kernel
theorem dX6_copyFrom_57 : decode cX6_copyFrom 57 = .ok (.iconst 0, 1) := by decide +kernel
theorem dX6_copyFrom_58 : decode cX6_copyFrom 58 = .ok (.aload_n 0, 1) := by decide +kernel
theorem dX6_copyFrom_59 : decode cX6_copyFrom 59 = .ok (.getfield 21, 3) := by decide +kernel
theorem dX6_copyFrom_62 : decode cX6_copyFrom 62 = .ok (.iconst 0, 1) := by decide +kernel
theorem dX6_copyFrom_63 : decode cX6_copyFrom 63 = .ok (.bipush 8, 2) := by decide +kernel
theorem dX6_copyFrom_65 : decode cX6_copyFrom 65 = .ok (.invokestatic 34, 3) := by decide +kernel
theorem dX6_copyFrom_68 : decode cX6_copyFrom 68 = .ok (.aload_n 1, 1) := by decide +kernel
theorem dX6_copyFrom_69 : decode cX6_copyFrom 69 = .ok (.getfield 24, 3) := by decide +kernel
theorem dX6_copyFrom_72 : decode cX6_copyFrom 72 = .ok (.iconst 0, 1) := by decide +kernel
theorem dX6_copyFrom_73 : decode cX6_copyFrom 73 = .ok (.aload_n 0, 1) := by decide +kernel
theorem dX6_copyFrom_74 : decode cX6_copyFrom 74 = .ok (.getfield 24, 3) := by decide +kernel
theorem dX6_copyFrom_77 : decode cX6_copyFrom 77 = .ok (.iconst 0, 1) := by decide +kernel
theorem dX6_copyFrom_78 : decode cX6_copyFrom 78 = .ok (.bipush 8, 2) := by decide +kernel
theorem dX6_copyFrom_80 : decode cX6_copyFrom 80 = .ok (.invokestatic 34, 3) := by decide +kernel
theorem dX6_copyFrom_83 : decode cX6_copyFrom 83 = .ok (.aload_n 1, 1) := by decide +kernel
theorem dX6_copyFrom_84 : decode cX6_copyFrom 84 = .ok (.getfield 27, 3) := by decide +kernel
theorem dX6_copyFrom_87 : decode cX6_copyFrom 87 = .ok (.iconst 0, 1) := by decide +kernel
theorem dX6_copyFrom_88 : decode cX6_copyFrom 88 = .ok (.aload_n 0, 1) := by decide +kernel
theorem dX6_copyFrom_89 : decode cX6_copyFrom 89 = .ok (.getfield 27, 3) := by decide +kernel
theorem dX6_copyFrom_92 : decode cX6_copyFrom 92 = .ok (.iconst 0, 1) := by decide +kernel
theorem dX6_copyFrom_93 : decode cX6_copyFrom 93 = .ok (.bipush 8, 2) := by decide +kernel
theorem dX6_copyFrom_95 : decode cX6_copyFrom 95 = .ok (.invokestatic 34, 3) := by decide +kernel
theorem dX6_copyFrom_98 : decode cX6_copyFrom 98 = .ok (.return_, 1) := by decide +kernel
theorem dX6_hasPassenger_0 : decode cX6_hasPassenger 0 = .ok (.iload_n 1, 1) := by decide +kernel
theorem dX6_hasPassenger_1 : decode cX6_hasPassenger 1 = .ok (.ifCond .lt 15, 3) := by decide +kernel
theorem dX6_hasPassenger_4 : decode cX6_hasPassenger 4 = .ok (.iload_n 1, 1) := by decide +kernel
theorem dX6_hasPassenger_5 : decode cX6_hasPassenger 5 = .ok (.aload_n 0, 1) := by decide +kernel
theorem dX6_hasPassenger_6 : decode cX6_hasPassenger 6 = .ok (.getfield 30, 3) := by decide +kernel
theorem dX6_hasPassenger_9 : decode cX6_hasPassenger 9 = .ok (.if_icmp .ge 7, 3) := by decide +kernel
theorem dX6_hasPassenger_12 : decode cX6_hasPassenger 12 = .ok (.iconst 1, 1) := by decide +kernel
theorem dX6_hasPassenger_13 : decode cX6_hasPassenger 13 = .ok (.goto 4, 3) := by decide +kernel
theorem dX6_hasPassenger_16 : decode cX6_hasPassenger 16 = .ok (.iconst 0, 1) := by decide +kernel
theorem dX6_hasPassenger_17 : decode cX6_hasPassenger 17 = .ok (.ireturn, 1) := by decide +kernel
theorem dX6_hasZone_0 : decode cX6_hasZone 0 = .ok (.aload_n 0, 1) := by decide +kernel
theorem dX6_hasZone_1 : decode cX6_hasZone 1 = .ok (.getfield 21, 3) := by decide +kernel
theorem dX6_hasZone_4 : decode cX6_hasZone 4 = .ok (.iload_n 1, 1) := by decide +kernel
theorem dX6_hasZone_5 : decode cX6_hasZone 5 = .ok (.iaload, 1) := by decide +kernel
theorem dX6_hasZone_6 : decode cX6_hasZone 6 = .ok (.iconst 1, 1) := by decide +kernel
theorem dX6_hasZone_7 : decode cX6_hasZone 7 = .ok (.iload_n 2, 1) := by decide +kernel
theorem dX6_hasZone_8 : decode cX6_hasZone 8 = .ok (.ishl, 1) := by decide +kernel
theorem dX6_hasZone_9 : decode cX6_hasZone 9 = .ok (.iand, 1) := by decide +kernel
theorem dX6_hasZone_10 : decode cX6_hasZone 10 = .ok (.ifCond .eq 7, 3) := by decide +kernel
theorem dX6_hasZone_13 : decode cX6_hasZone 13 = .ok (.iconst 1, 1) := by decide +kernel
theorem dX6_hasZone_14 : decode cX6_hasZone 14 = .ok (.goto 4, 3) := by decide +kernel
theorem dX6_hasZone_17 : decode cX6_hasZone 17 = .ok (.iconst 0, 1) := by decide +kernel
theorem dX6_hasZone_18 : decode cX6_hasZone 18 = .ok (.ireturn, 1) := by decide +kernel
theorem dX6_countOn_0 : decode cX6_countOn 0 = .ok (.iconst 0, 1) := by decide +kernel
theorem dX6_countOn_1 : decode cX6_countOn 1 = .ok (.istore_n 2, 1) := by decide +kernel
theorem dX6_countOn_2 : decode cX6_countOn 2 = .ok (.iconst 0, 1) := by decide +kernel
theorem dX6_countOn_3 : decode cX6_countOn 3 = .ok (.istore_n 3, 1) := by decide +kernel
theorem dX6_countOn_4 : decode cX6_countOn 4 = .ok (.iload_n 3, 1) := by decide +kernel
theorem dX6_countOn_5 : decode cX6_countOn 5 = .ok (.aload_n 0, 1) := by decide +kernel
theorem dX6_countOn_6 : decode cX6_countOn 6 = .ok (.getfield 30, 3) := by decide +kernel
theorem dX6_countOn_9 : decode cX6_countOn 9 = .ok (.if_icmp .ge 22, 3) := by decide +kernel
theorem dX6_countOn_12 : decode cX6_countOn 12 = .ok (.aload_n 0, 1) := by decide +kernel
theorem dX6_countOn_13 : decode cX6_countOn 13 = .ok (.getfield 15, 3) := by decide +kernel
theorem dX6_countOn_16 : decode cX6_countOn 16 = .ok (.iload_n 3, 1) := by decide +kernel
theorem dX6_countOn_17 : decode cX6_countOn 17 = .ok (.iaload, 1) := by decide +kernel
theorem dX6_countOn_18 : decode cX6_countOn 18 = .ok (.iload_n 1, 1) := by decide +kernel
theorem dX6_countOn_19 : decode cX6_countOn 19 = .ok (.if_icmp .ne 6, 3) := by decide +kernel
theorem dX6_countOn_22 : decode cX6_countOn 22 = .ok (.iinc 2 1, 3) := by decide +kernel
theorem dX6_countOn_25 : decode cX6_countOn 25 = .ok (.iinc 3 1, 3) := by decide +kernel
theorem dX6_countOn_28 : decode cX6_countOn 28 = .ok (.goto (-24), 3) := by decide +kernel
theorem dX6_countOn_31 : decode cX6_countOn 31 = .ok (.iload_n 2, 1) := by decide +kernel
theorem dX6_countOn_32 : decode cX6_countOn 32 = .ok (.ireturn, 1) := by decide +kernel
theorem dX6_putPassenger_0 : decode cX6_putPassenger 0 = .ok (.aload_n 0, 1) := by decide +kernel
theorem dX6_putPassenger_1 : decode cX6_putPassenger 1 = .ok (.getfield 30, 3) := by decide +kernel
theorem dX6_putPassenger_4 : decode cX6_putPassenger 4 = .ok (.istore_n 2, 1) := by decide +kernel
theorem dX6_putPassenger_5 : decode cX6_putPassenger 5 = .ok (.aload_n 0, 1) := by decide +kernel
theorem dX6_putPassenger_6 : decode cX6_putPassenger 6 = .ok (.getfield 9, 3) := by decide +kernel
theorem dX6_putPassenger_9 : decode cX6_putPassenger 9 = .ok (.iload_n 2, 1) := by decide +kernel
theorem dX6_putPassenger_10 : decode cX6_putPassenger 10 = .ok (.iload_n 1, 1) := by decide +kernel
theorem dX6_putPassenger_11 : decode cX6_putPassenger 11 = .ok (.iastore, 1) := by decide +kernel
theorem dX6_putPassenger_12 : decode cX6_putPassenger 12 = .ok (.aload_n 0, 1) := by decide +kernel
theorem dX6_putPassenger_13 : decode cX6_putPassenger 13 = .ok (.getfield 15, 3) := by decide +kernel
theorem dX6_putPassenger_16 : decode cX6_putPassenger 16 = .ok (.iload_n 2, 1) := by decide +kernel
theorem dX6_putPassenger_17 : decode cX6_putPassenger 17 = .ok (.iconst (-1), 1) := by decide +kernel
theorem dX6_putPassenger_18 : decode cX6_putPassenger 18 = .ok (.iastore, 1) := by decide +kernel
theorem dX6_putPassenger_19 : decode cX6_putPassenger 19 = .ok (.aload_n 0, 1) := by decide +kernel
theorem dX6_putPassenger_20 : decode cX6_putPassenger 20 = .ok (.getfield 18, 3) := by decide +kernel
theorem dX6_putPassenger_23 : decode cX6_putPassenger 23 = .ok (.iload_n 2, 1) := by decide +kernel
theorem dX6_putPassenger_24 : decode cX6_putPassenger 24 = .ok (.iconst 0, 1) := by decide +kernel
theorem dX6_putPassenger_25 : decode cX6_putPassenger 25 = .ok (.iastore, 1) := by decide +kernel
theorem dX6_putPassenger_26 : decode cX6_putPassenger 26 = .ok (.aload_n 0, 1) := by decide +kernel
theorem dX6_putPassenger_27 : decode cX6_putPassenger 27 = .ok (.getfield 21, 3) := by decide +kernel
theorem dX6_putPassenger_30 : decode cX6_putPassenger 30 = .ok (.iload_n 2, 1) := by decide +kernel
theorem dX6_putPassenger_31 : decode cX6_putPassenger 31 = .ok (.iconst 0, 1) := by decide +kernel
theorem dX6_putPassenger_32 : decode cX6_putPassenger 32 = .ok (.iastore, 1) := by decide +kernel
theorem dX6_putPassenger_33 : decode cX6_putPassenger 33 = .ok (.aload_n 0, 1) := by decide +kernel
theorem dX6_putPassenger_34 : decode cX6_putPassenger 34 = .ok (.getfield 24, 3) := by decide +kernel
theorem dX6_putPassenger_37 : decode cX6_putPassenger 37 = .ok (.iload_n 2, 1) := by decide +kernel
theorem dX6_putPassenger_38 : decode cX6_putPassenger 38 = .ok (.iconst (-1), 1) := by decide +kernel
theorem dX6_putPassenger_39 : decode cX6_putPassenger 39 = .ok (.iastore, 1) := by decide +kernel
theorem dX6_putPassenger_40 : decode cX6_putPassenger 40 = .ok (.aload_n 0, 1) := by decide +kernel
theorem dX6_putPassenger_41 : decode cX6_putPassenger 41 = .ok (.getfield 27, 3) := by decide +kernel
theorem dX6_putPassenger_44 : decode cX6_putPassenger 44 = .ok (.iload_n 2, 1) := by decide +kernel
theorem dX6_putPassenger_45 : decode cX6_putPassenger 45 = .ok (.iconst 0, 1) := by decide +kernel
theorem dX6_putPassenger_46 : decode cX6_putPassenger 46 = .ok (.iastore, 1) := by decide +kernel
theorem dX6_putPassenger_47 : decode cX6_putPassenger 47 = .ok (.aload_n 0, 1) := by decide +kernel
theorem dX6_putPassenger_48 : decode cX6_putPassenger 48 = .ok (.dup, 1) := by decide +kernel
theorem dX6_putPassenger_49 : decode cX6_putPassenger 49 = .ok (.getfield 30, 3) := by decide +kernel
theorem dX6_putPassenger_52 : decode cX6_putPassenger 52 = .ok (.iconst 1, 1) := by decide +kernel
theorem dX6_putPassenger_53 : decode cX6_putPassenger 53 = .ok (.iadd, 1) := by decide +kernel
theorem dX6_putPassenger_54 : decode cX6_putPassenger 54 = .ok (.putfield 30, 3) := by decide +kernel
theorem dX6_putPassenger_57 : decode cX6_putPassenger 57 = .ok (.iload_n 2, 1) := by decide +kernel
theorem dX6_putPassenger_58 : decode cX6_putPassenger 58 = .ok (.ireturn, 1) := by decide +kernel
theorem dX6_addToTicket_0 : decode cX6_addToTicket 0 = .ok (.aload_n 0, 1) := by decide +kernel
theorem dX6_addToTicket_1 : decode cX6_addToTicket 1 = .ok (.getfield 21, 3) := by decide +kernel
theorem dX6_addToTicket_4 : decode cX6_addToTicket 4 = .ok (.iload_n 1, 1) := by decide +kernel
theorem dX6_addToTicket_5 : decode cX6_addToTicket 5 = .ok (.dup2, 1) := by decide +kernel
theorem dX6_addToTicket_6 : decode cX6_addToTicket 6 = .ok (.iaload, 1) := by decide +kernel
theorem dX6_addToTicket_7 : decode cX6_addToTicket 7 = .ok (.iconst 1, 1) := by decide +kernel
theorem dX6_addToTicket_8 : decode cX6_addToTicket 8 = .ok (.iload_n 2, 1) := by decide +kernel
theorem dX6_addToTicket_9 : decode cX6_addToTicket 9 = .ok (.ishl, 1) := by decide +kernel
theorem dX6_addToTicket_10 : decode cX6_addToTicket 10 = .ok (.ior, 1) := by decide +kernel
theorem dX6_addToTicket_11 : decode cX6_addToTicket 11 = .ok (.iastore, 1) := by decide +kernel
theorem dX6_addToTicket_12 : decode cX6_addToTicket 12 = .ok (.aload_n 0, 1) := by decide +kernel
theorem dX6_addToTicket_13 : decode cX6_addToTicket 13 = .ok (.getfield 18, 3) := by decide +kernel
theorem dX6_addToTicket_16 : decode cX6_addToTicket 16 = .ok (.iload_n 1, 1) := by decide +kernel
theorem dX6_addToTicket_17 : decode cX6_addToTicket 17 = .ok (.dup2, 1) := by decide +kernel
theorem dX6_addToTicket_18 : decode cX6_addToTicket 18 = .ok (.iaload, 1) := by decide +kernel
theorem dX6_addToTicket_19 : decode cX6_addToTicket 19 = .ok (.iload_n 3, 1) := by decide +kernel
theorem dX6_addToTicket_20 : decode cX6_addToTicket 20 = .ok (.iadd, 1) := by decide +kernel
theorem dX6_addToTicket_21 : decode cX6_addToTicket 21 = .ok (.iastore, 1) := by decide +kernel
theorem dX6_addToTicket_22 : decode cX6_addToTicket 22 = .ok (.aload_n 0, 1) := by decide +kernel
theorem dX6_addToTicket_23 : decode cX6_addToTicket 23 = .ok (.getfield 18, 3) := by decide +kernel
theorem dX6_addToTicket_26 : decode cX6_addToTicket 26 = .ok (.iload_n 1, 1) := by decide +kernel
theorem dX6_addToTicket_27 : decode cX6_addToTicket 27 = .ok (.iaload, 1) := by decide +kernel
theorem dX6_addToTicket_28 : decode cX6_addToTicket 28 = .ok (.ireturn, 1) := by decide +kernel
theorem dX7_init_0 : decode cX7_init 0 = .ok (.aload_n 0, 1) := by decide +kernel
theorem dX7_init_1 : decode cX7_init 1 = .ok (.invokespecial 3, 3) := by decide +kernel
theorem dX7_init_4 : decode cX7_init 4 = .ok (.aload_n 0, 1) := by decide +kernel
theorem dX7_init_5 : decode cX7_init 5 = .ok (.new 9, 3) := by decide +kernel
theorem dX7_init_8 : decode cX7_init 8 = .ok (.dup, 1) := by decide +kernel
theorem dX7_init_9 : decode cX7_init 9 = .ok (.invokespecial 11, 3) := by decide +kernel
theorem dX7_init_12 : decode cX7_init 12 = .ok (.putfield 12, 3) := by decide +kernel
theorem dX7_init_15 : decode cX7_init 15 = .ok (.aload_n 0, 1) := by decide +kernel
theorem dX7_init_16 : decode cX7_init 16 = .ok (.new 18, 3) := by decide +kernel
theorem dX7_init_19 : decode cX7_init 19 = .ok (.dup, 1) := by decide +kernel
theorem dX7_init_20 : decode cX7_init 20 = .ok (.invokespecial 20, 3) := by decide +kernel
theorem dX7_init_23 : decode cX7_init 23 = .ok (.putfield 21, 3) := by decide +kernel
theorem dX7_init_26 : decode cX7_init 26 = .ok (.aload_n 0, 1) := by decide +kernel
theorem dX7_init_27 : decode cX7_init 27 = .ok (.new 25, 3) := by decide +kernel
theorem dX7_init_30 : decode cX7_init 30 = .ok (.dup, 1) := by decide +kernel
theorem dX7_init_31 : decode cX7_init 31 = .ok (.invokespecial 27, 3) := by decide +kernel
theorem dX7_init_34 : decode cX7_init 34 = .ok (.putfield 28, 3) := by decide +kernel
theorem dX7_init_37 : decode cX7_init 37 = .ok (.aload_n 0, 1) := by decide +kernel
theorem dX7_init_38 : decode cX7_init 38 = .ok (.new 32, 3) := by decide +kernel
theorem dX7_init_41 : decode cX7_init 41 = .ok (.dup, 1) := by decide +kernel
theorem dX7_init_42 : decode cX7_init 42 = .ok (.invokespecial 34, 3) := by decide +kernel
theorem dX7_init_45 : decode cX7_init 45 = .ok (.putfield 35, 3) := by decide +kernel
theorem dX7_init_48 : decode cX7_init 48 = .ok (.return_, 1) := by decide +kernel
theorem dX7_copyFrom_0 : decode cX7_copyFrom 0 = .ok (.aload_n 0, 1) := by decide +kernel
theorem dX7_copyFrom_1 : decode cX7_copyFrom 1 = .ok (.getfield 12, 3) := by decide +kernel
theorem dX7_copyFrom_4 : decode cX7_copyFrom 4 = .ok (.aload_n 1, 1) := by decide +kernel
theorem dX7_copyFrom_5 : decode cX7_copyFrom 5 = .ok (.getfield 12, 3) := by decide +kernel
theorem dX7_copyFrom_8 : decode cX7_copyFrom 8 = .ok (.invokevirtual 39, 3) := by decide +kernel
theorem dX7_copyFrom_11 : decode cX7_copyFrom 11 = .ok (.aload_n 0, 1) := by decide +kernel
theorem dX7_copyFrom_12 : decode cX7_copyFrom 12 = .ok (.getfield 21, 3) := by decide +kernel
theorem dX7_copyFrom_15 : decode cX7_copyFrom 15 = .ok (.aload_n 1, 1) := by decide +kernel
theorem dX7_copyFrom_16 : decode cX7_copyFrom 16 = .ok (.getfield 21, 3) := by decide +kernel
theorem dX7_copyFrom_19 : decode cX7_copyFrom 19 = .ok (.invokevirtual 43, 3) := by decide +kernel
theorem dX7_copyFrom_22 : decode cX7_copyFrom 22 = .ok (.aload_n 0, 1) := by decide +kernel
theorem dX7_copyFrom_23 : decode cX7_copyFrom 23 = .ok (.getfield 28, 3) := by decide +kernel
theorem dX7_copyFrom_26 : decode cX7_copyFrom 26 = .ok (.aload_n 1, 1) := by decide +kernel
theorem dX7_copyFrom_27 : decode cX7_copyFrom 27 = .ok (.getfield 28, 3) := by decide +kernel
theorem dX7_copyFrom_30 : decode cX7_copyFrom 30 = .ok (.invokevirtual 46, 3) := by decide +kernel
theorem dX7_copyFrom_33 : decode cX7_copyFrom 33 = .ok (.aload_n 0, 1) := by decide +kernel
theorem dX7_copyFrom_34 : decode cX7_copyFrom 34 = .ok (.getfield 35, 3) := by decide +kernel
theorem dX7_copyFrom_37 : decode cX7_copyFrom 37 = .ok (.aload_n 1, 1) := by decide +kernel
theorem dX7_copyFrom_38 : decode cX7_copyFrom 38 = .ok (.getfield 35, 3) := by decide +kernel
theorem dX7_copyFrom_41 : decode cX7_copyFrom 41 = .ok (.invokevirtual 49, 3) := by decide +kernel
theorem dX7_copyFrom_44 : decode cX7_copyFrom 44 = .ok (.aload_n 0, 1) := by decide +kernel
theorem dX7_copyFrom_45 : decode cX7_copyFrom 45 = .ok (.aload_n 1, 1) := by decide +kernel
theorem dX7_copyFrom_46 : decode cX7_copyFrom 46 = .ok (.getfield 52, 3) := by decide +kernel
theorem dX7_copyFrom_49 : decode cX7_copyFrom 49 = .ok (.putfield 52, 3) := by decide +kernel
theorem dX7_copyFrom_52 : decode cX7_copyFrom 52 = .ok (.return_, 1) := by decide +kernel
theorem dX7_faultOfStop_0 : decode cX7_faultOfStop 0 = .ok (.iload_n 1, 1) := by decide +kernel
theorem dX7_faultOfStop_1 : decode cX7_faultOfStop 1 = .ok (.invokestatic 56, 3) := by decide +kernel
theorem dX7_faultOfStop_4 : decode cX7_faultOfStop 4 = .ok (.ifCond .ne 5, 3) := by decide +kernel
theorem dX7_faultOfStop_7 : decode cX7_faultOfStop 7 = .ok (.iconst 2, 1) := by decide +kernel
theorem dX7_faultOfStop_8 : decode cX7_faultOfStop 8 = .ok (.ireturn, 1) := by decide +kernel
theorem dX7_faultOfStop_9 : decode cX7_faultOfStop 9 = .ok (.aload_n 0, 1) := by decide +kernel
theorem dX7_faultOfStop_10 : decode cX7_faultOfStop 10 = .ok (.getfield 12, 3) := by decide +kernel
theorem dX7_faultOfStop_13 : decode cX7_faultOfStop 13 = .ok (.getfield 60, 3) := by decide +kernel
theorem dX7_faultOfStop_16 : decode cX7_faultOfStop 16 = .ok (.bipush 10, 2) := by decide +kernel
theorem dX7_faultOfStop_18 : decode cX7_faultOfStop 18 = .ok (.if_icmp .lt 7, 3) := by decide +kernel
theorem dX7_faultOfStop_21 : decode cX7_faultOfStop 21 = .ok (.iconst 3, 1) := by decide +kernel
theorem dX7_faultOfStop_22 : decode cX7_faultOfStop 22 = .ok (.goto 4, 3) := by decide +kernel
theorem dX7_faultOfStop_25 : decode cX7_faultOfStop 25 = .ok (.iconst 0, 1) := by decide +kernel
theorem dX7_faultOfStop_26 : decode cX7_faultOfStop 26 = .ok (.ireturn, 1) := by decide +kernel
theorem dX7_faultOfLine_0 : decode cX7_faultOfLine 0 = .ok (.aload_n 0, 1) := by decide +kernel
theorem dX7_faultOfLine_1 : decode cX7_faultOfLine 1 = .ok (.getfield 12, 3) := by decide +kernel
theorem dX7_faultOfLine_4 : decode cX7_faultOfLine 4 = .ok (.iload_n 1, 1) := by decide +kernel
theorem dX7_faultOfLine_5 : decode cX7_faultOfLine 5 = .ok (.invokevirtual 63, 3) := by decide +kernel
theorem dX7_faultOfLine_8 : decode cX7_faultOfLine 8 = .ok (.ifCond .eq 14, 3) := by decide +kernel
theorem dX7_faultOfLine_11 : decode cX7_faultOfLine 11 = .ok (.aload_n 0, 1) := by decide +kernel
theorem dX7_faultOfLine_12 : decode cX7_faultOfLine 12 = .ok (.getfield 12, 3) := by decide +kernel
theorem dX7_faultOfLine_15 : decode cX7_faultOfLine 15 = .ok (.iload_n 2, 1) := by decide +kernel
theorem dX7_faultOfLine_16 : decode cX7_faultOfLine 16 = .ok (.invokevirtual 63, 3) := by decide +kernel
theorem dX7_faultOfLine_19 : decode cX7_faultOfLine 19 = .ok (.ifCond .ne 5, 3) := by decide +kernel
theorem dX7_faultOfLine_22 : decode cX7_faultOfLine 22 = .ok (.iconst 1, 1) := by decide +kernel
theorem dX7_faultOfLine_23 : decode cX7_faultOfLine 23 = .ok (.ireturn, 1) := by decide +kernel
theorem dX7_faultOfLine_24 : decode cX7_faultOfLine 24 = .ok (.iload_n 1, 1) := by decide +kernel
theorem dX7_faultOfLine_25 : decode cX7_faultOfLine 25 = .ok (.iload_n 2, 1) := by decide +kernel
theorem dX7_faultOfLine_26 : decode cX7_faultOfLine 26 = .ok (.if_icmp .ne 5, 3) := by decide +kernel
theorem dX7_faultOfLine_29 : decode cX7_faultOfLine 29 = .ok (.iconst 2, 1) := by decide +kernel
theorem dX7_faultOfLine_30 : decode cX7_faultOfLine 30 = .ok (.ireturn, 1) := by decide +kernel
theorem dX7_faultOfLine_31 : decode cX7_faultOfLine 31 = .ok (.aload_n 0, 1) := by decide +kernel
theorem dX7_faultOfLine_32 : decode cX7_faultOfLine 32 = .ok (.getfield 12, 3) := by decide +kernel
theorem dX7_faultOfLine_35 : decode cX7_faultOfLine 35 = .ok (.getfield 66, 3) := by decide +kernel
theorem dX7_faultOfLine_38 : decode cX7_faultOfLine 38 = .ok (.iconst 5, 1) := by decide +kernel
theorem dX7_faultOfLine_39 : decode cX7_faultOfLine 39 = .ok (.if_icmp .lt 7, 3) := by decide +kernel
theorem dX7_faultOfLine_42 : decode cX7_faultOfLine 42 = .ok (.iconst 3, 1) := by decide +kernel
theorem dX7_faultOfLine_43 : decode cX7_faultOfLine 43 = .ok (.goto 4, 3) := by decide +kernel
theorem dX7_faultOfLine_46 : decode cX7_faultOfLine 46 = .ok (.iconst 0, 1) := by decide +kernel
theorem dX7_faultOfLine_47 : decode cX7_faultOfLine 47 = .ok (.ireturn, 1) := by decide +kernel
theorem dX7_faultOfExtension_0 : decode cX7_faultOfExtension 0 = .ok (.aload_n 0, 1) := by decide +kernel
theorem dX7_faultOfExtension_1 : decode cX7_faultOfExtension 1 = .ok (.getfield 12, 3) := by decide +kernel
theorem dX7_faultOfExtension_4 : decode cX7_faultOfExtension 4 = .ok (.iload_n 1, 1) := by decide +kernel
theorem dX7_faultOfExtension_5 : decode cX7_faultOfExtension 5 = .ok (.invokevirtual 69, 3) := by decide +kernel
theorem dX7_faultOfExtension_8 : decode cX7_faultOfExtension 8 = .ok (.ifCond .eq 14, 3) := by decide +kernel
theorem dX7_faultOfExtension_11 : decode cX7_faultOfExtension 11 = .ok (.aload_n 0, 1) := by decide +kernel
theorem dX7_faultOfExtension_12 : decode cX7_faultOfExtension 12 = .ok (.getfield 12, 3) := by decide +kernel
theorem dX7_faultOfExtension_15 : decode cX7_faultOfExtension 15 = .ok (.iload_n 2, 1) := by decide +kernel
theorem dX7_faultOfExtension_16 : decode cX7_faultOfExtension 16 = .ok (.invokevirtual 63, 3) := by decide +kernel
theorem dX7_faultOfExtension_19 : decode cX7_faultOfExtension 19 = .ok (.ifCond .ne 5, 3) := by decide +kernel
theorem dX7_faultOfExtension_22 : decode cX7_faultOfExtension 22 = .ok (.iconst 1, 1) := by decide +kernel
theorem dX7_faultOfExtension_23 : decode cX7_faultOfExtension 23 = .ok (.ireturn, 1) := by decide +kernel
theorem dX7_faultOfExtension_24 : decode cX7_faultOfExtension 24 = .ok (.aload_n 0, 1) := by decide +kernel
theorem dX7_faultOfExtension_25 : decode cX7_faultOfExtension 25 = .ok (.getfield 12, 3) := by decide +kernel
theorem dX7_faultOfExtension_28 : decode cX7_faultOfExtension 28 = .ok (.iload_n 1, 1) := by decide +kernel
theorem dX7_faultOfExtension_29 : decode cX7_faultOfExtension 29 = .ok (.iload_n 2, 1) := by decide +kernel
theorem dX7_faultOfExtension_30 : decode cX7_faultOfExtension 30 = .ok (.invokevirtual 72, 3) := by decide +kernel
theorem dX7_faultOfExtension_33 : decode cX7_faultOfExtension 33 = .ok (.ifCond .eq 5, 3) := by decide +kernel
theorem dX7_faultOfExtension_36 : decode cX7_faultOfExtension 36 = .ok (.iconst 2, 1) := by decide +kernel
theorem dX7_faultOfExtension_37 : decode cX7_faultOfExtension 37 = .ok (.ireturn, 1) := by decide +kernel
theorem dX7_faultOfExtension_38 : decode cX7_faultOfExtension 38 = .ok (.aload_n 0, 1) := by decide +kernel
theorem dX7_faultOfExtension_39 : decode cX7_faultOfExtension 39 = .ok (.getfield 12, 3) := by decide +kernel
theorem dX7_faultOfExtension_42 : decode cX7_faultOfExtension 42 = .ok (.getfield 76, 3) := by decide +kernel
theorem dX7_faultOfExtension_45 : decode cX7_faultOfExtension 45 = .ok (.iload_n 1, 1) := by decide +kernel
theorem dX7_faultOfExtension_46 : decode cX7_faultOfExtension 46 = .ok (.iaload, 1) := by decide +kernel
theorem dX7_faultOfExtension_47 : decode cX7_faultOfExtension 47 = .ok (.bipush 6, 2) := by decide +kernel
theorem dX7_faultOfExtension_49 : decode cX7_faultOfExtension 49 = .ok (.if_icmp .lt 7, 3) := by decide +kernel
theorem dX7_faultOfExtension_52 : decode cX7_faultOfExtension 52 = .ok (.iconst 3, 1) := by decide +kernel
theorem dX7_faultOfExtension_53 : decode cX7_faultOfExtension 53 = .ok (.goto 4, 3) := by decide +kernel
theorem dX7_faultOfExtension_56 : decode cX7_faultOfExtension 56 = .ok (.iconst 0, 1) := by decide +kernel
theorem dX7_faultOfExtension_57 : decode cX7_faultOfExtension 57 = .ok (.ireturn, 1) := by decide +kernel
theorem dX7_faultOfTram_0 : decode cX7_faultOfTram 0 = .ok (.aload_n 0, 1) := by decide +kernel
theorem dX7_faultOfTram_1 : decode cX7_faultOfTram 1 = .ok (.getfield 12, 3) := by decide +kernel
theorem dX7_faultOfTram_4 : decode cX7_faultOfTram 4 = .ok (.iload_n 1, 1) := by decide +kernel
theorem dX7_faultOfTram_5 : decode cX7_faultOfTram 5 = .ok (.invokevirtual 69, 3) := by decide +kernel
theorem dX7_faultOfTram_8 : decode cX7_faultOfTram 8 = .ok (.ifCond .ne 5, 3) := by decide +kernel
theorem dX7_faultOfTram_11 : decode cX7_faultOfTram 11 = .ok (.iconst 1, 1) := by decide +kernel
theorem dX7_faultOfTram_12 : decode cX7_faultOfTram 12 = .ok (.ireturn, 1) := by decide +kernel
theorem dX7_faultOfTram_13 : decode cX7_faultOfTram 13 = .ok (.aload_n 0, 1) := by decide +kernel
theorem dX7_faultOfTram_14 : decode cX7_faultOfTram 14 = .ok (.getfield 21, 3) := by decide +kernel
theorem dX7_faultOfTram_17 : decode cX7_faultOfTram 17 = .ok (.getfield 80, 3) := by decide +kernel
theorem dX7_faultOfTram_20 : decode cX7_faultOfTram 20 = .ok (.bipush 6, 2) := by decide +kernel
theorem dX7_faultOfTram_22 : decode cX7_faultOfTram 22 = .ok (.if_icmp .lt 7, 3) := by decide +kernel
theorem dX7_faultOfTram_25 : decode cX7_faultOfTram 25 = .ok (.iconst 3, 1) := by decide +kernel
theorem dX7_faultOfTram_26 : decode cX7_faultOfTram 26 = .ok (.goto 4, 3) := by decide +kernel
theorem dX7_faultOfTram_29 : decode cX7_faultOfTram 29 = .ok (.iconst 0, 1) := by decide +kernel
theorem dX7_faultOfTram_30 : decode cX7_faultOfTram 30 = .ok (.ireturn, 1) := by decide +kernel
theorem dX7_faultOfPassenger_0 : decode cX7_faultOfPassenger 0 = .ok (.aload_n 0, 1) := by decide +kernel
theorem dX7_faultOfPassenger_1 : decode cX7_faultOfPassenger 1 = .ok (.getfield 12, 3) := by decide +kernel
theorem dX7_faultOfPassenger_4 : decode cX7_faultOfPassenger 4 = .ok (.iload_n 1, 1) := by decide +kernel
theorem dX7_faultOfPassenger_5 : decode cX7_faultOfPassenger 5 = .ok (.invokevirtual 63, 3) := by decide +kernel
theorem dX7_faultOfPassenger_8 : decode cX7_faultOfPassenger 8 = .ok (.ifCond .ne 5, 3) := by decide +kernel
theorem dX7_faultOfPassenger_11 : decode cX7_faultOfPassenger 11 = .ok (.iconst 1, 1) := by decide +kernel
theorem dX7_faultOfPassenger_12 : decode cX7_faultOfPassenger 12 = .ok (.ireturn, 1) := by decide +kernel
theorem dX7_faultOfPassenger_13 : decode cX7_faultOfPassenger 13 = .ok (.aload_n 0, 1) := by decide +kernel
theorem dX7_faultOfPassenger_14 : decode cX7_faultOfPassenger 14 = .ok (.getfield 28, 3) := by decide +kernel
theorem dX7_faultOfPassenger_17 : decode cX7_faultOfPassenger 17 = .ok (.getfield 83, 3) := by decide +kernel
theorem dX7_faultOfPassenger_20 : decode cX7_faultOfPassenger 20 = .ok (.bipush 8, 2) := by decide +kernel
theorem dX7_faultOfPassenger_22 : decode cX7_faultOfPassenger 22 = .ok (.if_icmp .lt 7, 3) := by decide +kernel
theorem dX7_faultOfPassenger_25 : decode cX7_faultOfPassenger 25 = .ok (.iconst 3, 1) := by decide +kernel
theorem dX7_faultOfPassenger_26 : decode cX7_faultOfPassenger 26 = .ok (.goto 4, 3) := by decide +kernel
theorem dX7_faultOfPassenger_29 : decode cX7_faultOfPassenger 29 = .ok (.iconst 0, 1) := by decide +kernel
theorem dX7_faultOfPassenger_30 : decode cX7_faultOfPassenger 30 = .ok (.ireturn, 1) := by decide +kernel
theorem dX7_faultOfTicket_0 : decode cX7_faultOfTicket 0 = .ok (.aload_n 0, 1) := by decide +kernel
theorem dX7_faultOfTicket_1 : decode cX7_faultOfTicket 1 = .ok (.getfield 28, 3) := by decide +kernel
theorem dX7_faultOfTicket_4 : decode cX7_faultOfTicket 4 = .ok (.iload_n 1, 1) := by decide +kernel
theorem dX7_faultOfTicket_5 : decode cX7_faultOfTicket 5 = .ok (.invokevirtual 84, 3) := by decide +kernel
theorem dX7_faultOfTicket_8 : decode cX7_faultOfTicket 8 = .ok (.ifCond .ne 5, 3) := by decide +kernel
theorem dX7_faultOfTicket_11 : decode cX7_faultOfTicket 11 = .ok (.iconst 1, 1) := by decide +kernel
theorem dX7_faultOfTicket_12 : decode cX7_faultOfTicket 12 = .ok (.ireturn, 1) := by decide +kernel
theorem dX7_faultOfTicket_13 : decode cX7_faultOfTicket 13 = .ok (.iload_n 2, 1) := by decide +kernel
theorem dX7_faultOfTicket_14 : decode cX7_faultOfTicket 14 = .ok (.invokestatic 56, 3) := by decide +kernel
theorem dX7_faultOfTicket_17 : decode cX7_faultOfTicket 17 = .ok (.ifCond .eq 14, 3) := by decide +kernel
theorem dX7_faultOfTicket_20 : decode cX7_faultOfTicket 20 = .ok (.iload_n 3, 1) := by decide +kernel
theorem dX7_faultOfTicket_21 : decode cX7_faultOfTicket 21 = .ok (.iconst 1, 1) := by decide +kernel
theorem dX7_faultOfTicket_22 : decode cX7_faultOfTicket 22 = .ok (.if_icmp .lt 9, 3) := by decide +kernel
theorem dX7_faultOfTicket_25 : decode cX7_faultOfTicket 25 = .ok (.iload_n 3, 1) := by decide +kernel
theorem dX7_faultOfTicket_26 : decode cX7_faultOfTicket 26 = .ok (.bipush 9, 2) := by decide +kernel
theorem dX7_faultOfTicket_28 : decode cX7_faultOfTicket 28 = .ok (.if_icmp .le 5, 3) := by decide +kernel
theorem dX7_faultOfTicket_31 : decode cX7_faultOfTicket 31 = .ok (.iconst 2, 1) := by decide +kernel
theorem dX7_faultOfTicket_32 : decode cX7_faultOfTicket 32 = .ok (.ireturn, 1) := by decide +kernel
theorem dX7_faultOfTicket_33 : decode cX7_faultOfTicket 33 = .ok (.aload_n 0, 1) := by decide +kernel
theorem dX7_faultOfTicket_34 : decode cX7_faultOfTicket 34 = .ok (.getfield 28, 3) := by decide +kernel
theorem dX7_faultOfTicket_37 : decode cX7_faultOfTicket 37 = .ok (.getfield 87, 3) := by decide +kernel
theorem dX7_faultOfTicket_40 : decode cX7_faultOfTicket 40 = .ok (.iload_n 1, 1) := by decide +kernel
theorem dX7_faultOfTicket_41 : decode cX7_faultOfTicket 41 = .ok (.iaload, 1) := by decide +kernel
theorem dX7_faultOfTicket_42 : decode cX7_faultOfTicket 42 = .ok (.iload_n 3, 1) := by decide +kernel
theorem dX7_faultOfTicket_43 : decode cX7_faultOfTicket 43 = .ok (.iadd, 1) := by decide +kernel
theorem dX7_faultOfTicket_44 : decode cX7_faultOfTicket 44 = .ok (.bipush 20, 2) := by decide +kernel
theorem dX7_faultOfTicket_46 : decode cX7_faultOfTicket 46 = .ok (.if_icmp .le 7, 3) := by decide +kernel
theorem dX7_faultOfTicket_49 : decode cX7_faultOfTicket 49 = .ok (.iconst 3, 1) := by decide +kernel
theorem dX7_faultOfTicket_50 : decode cX7_faultOfTicket 50 = .ok (.goto 4, 3) := by decide +kernel
theorem dX7_faultOfTicket_53 : decode cX7_faultOfTicket 53 = .ok (.iconst 0, 1) := by decide +kernel
theorem dX7_faultOfTicket_54 : decode cX7_faultOfTicket 54 = .ok (.ireturn, 1) := by decide +kernel
theorem dX7_faultOfBoarding_0 : decode cX7_faultOfBoarding 0 = .ok (.aload_n 0, 1) := by decide +kernel
theorem dX7_faultOfBoarding_1 : decode cX7_faultOfBoarding 1 = .ok (.getfield 28, 3) := by decide +kernel
theorem dX7_faultOfBoarding_4 : decode cX7_faultOfBoarding 4 = .ok (.iload_n 1, 1) := by decide +kernel
theorem dX7_faultOfBoarding_5 : decode cX7_faultOfBoarding 5 = .ok (.invokevirtual 84, 3) := by decide +kernel
theorem dX7_faultOfBoarding_8 : decode cX7_faultOfBoarding 8 = .ok (.ifCond .eq 14, 3) := by decide +kernel
theorem dX7_faultOfBoarding_11 : decode cX7_faultOfBoarding 11 = .ok (.aload_n 0, 1) := by decide +kernel
theorem dX7_faultOfBoarding_12 : decode cX7_faultOfBoarding 12 = .ok (.getfield 21, 3) := by decide +kernel
theorem dX7_faultOfBoarding_15 : decode cX7_faultOfBoarding 15 = .ok (.iload_n 2, 1) := by decide +kernel
theorem dX7_faultOfBoarding_16 : decode cX7_faultOfBoarding 16 = .ok (.invokevirtual 90, 3) := by decide +kernel
theorem dX7_faultOfBoarding_19 : decode cX7_faultOfBoarding 19 = .ok (.ifCond .ne 5, 3) := by decide +kernel
theorem dX7_faultOfBoarding_22 : decode cX7_faultOfBoarding 22 = .ok (.iconst 1, 1) := by decide +kernel
theorem dX7_faultOfBoarding_23 : decode cX7_faultOfBoarding 23 = .ok (.ireturn, 1) := by decide +kernel
theorem dX7_faultOfBoarding_24 : decode cX7_faultOfBoarding 24 = .ok (.aload_n 0, 1) := by decide +kernel
theorem dX7_faultOfBoarding_25 : decode cX7_faultOfBoarding 25 = .ok (.getfield 28, 3) := by decide +kernel
theorem dX7_faultOfBoarding_28 : decode cX7_faultOfBoarding 28 = .ok (.getfield 93, 3) := by decide +kernel
theorem dX7_faultOfBoarding_31 : decode cX7_faultOfBoarding 31 = .ok (.iload_n 1, 1) := by decide +kernel
theorem dX7_faultOfBoarding_32 : decode cX7_faultOfBoarding 32 = .ok (.iaload, 1) := by decide +kernel
theorem dX7_faultOfBoarding_33 : decode cX7_faultOfBoarding 33 = .ok (.iconst (-1), 1) := by decide +kernel
theorem dX7_faultOfBoarding_34 : decode cX7_faultOfBoarding 34 = .ok (.if_icmp .eq 5, 3) := by decide +kernel
theorem dX7_faultOfBoarding_37 : decode cX7_faultOfBoarding 37 = .ok (.iconst 3, 1) := by decide +kernel
theorem dX7_faultOfBoarding_38 : decode cX7_faultOfBoarding 38 = .ok (.ireturn, 1) := by decide +kernel
theorem dX7_faultOfBoarding_39 : decode cX7_faultOfBoarding 39 = .ok (.aload_n 0, 1) := by decide +kernel
theorem dX7_faultOfBoarding_40 : decode cX7_faultOfBoarding 40 = .ok (.getfield 28, 3) := by decide +kernel
theorem dX7_faultOfBoarding_43 : decode cX7_faultOfBoarding 43 = .ok (.getfield 96, 3) := by decide +kernel
theorem dX7_faultOfBoarding_46 : decode cX7_faultOfBoarding 46 = .ok (.iload_n 1, 1) := by decide +kernel
theorem dX7_faultOfBoarding_47 : decode cX7_faultOfBoarding 47 = .ok (.iaload, 1) := by decide +kernel
theorem dX7_faultOfBoarding_48 : decode cX7_faultOfBoarding 48 = .ok (.istore_n 3, 1) := by decide +kernel
theorem dX7_faultOfBoarding_49 : decode cX7_faultOfBoarding 49 = .ok (.iload_n 3, 1) := by decide +kernel
theorem dX7_faultOfBoarding_50 : decode cX7_faultOfBoarding 50 = .ok (.aload_n 0, 1) := by decide +kernel
theorem dX7_faultOfBoarding_51 : decode cX7_faultOfBoarding 51 = .ok (.iload_n 2, 1) := by decide +kernel
theorem dX7_faultOfBoarding_52 : decode cX7_faultOfBoarding 52 = .ok (.invokevirtual 99, 3) := by decide +kernel
theorem dX7_faultOfBoarding_55 : decode cX7_faultOfBoarding 55 = .ok (.if_icmp .eq 5, 3) := by decide +kernel
theorem dX7_faultOfBoarding_58 : decode cX7_faultOfBoarding 58 = .ok (.iconst 4, 1) := by decide +kernel
theorem dX7_faultOfBoarding_59 : decode cX7_faultOfBoarding 59 = .ok (.ireturn, 1) := by decide +kernel
theorem dX7_faultOfBoarding_60 : decode cX7_faultOfBoarding 60 = .ok (.aload_n 0, 1) := by decide +kernel
theorem dX7_faultOfBoarding_61 : decode cX7_faultOfBoarding 61 = .ok (.iload_n 1, 1) := by decide +kernel
theorem dX7_faultOfBoarding_62 : decode cX7_faultOfBoarding 62 = .ok (.aload_n 0, 1) := by decide +kernel
theorem dX7_faultOfBoarding_63 : decode cX7_faultOfBoarding 63 = .ok (.getfield 21, 3) := by decide +kernel
theorem dX7_faultOfBoarding_66 : decode cX7_faultOfBoarding 66 = .ok (.getfield 103, 3) := by decide +kernel
theorem dX7_faultOfBoarding_69 : decode cX7_faultOfBoarding 69 = .ok (.iload_n 2, 1) := by decide +kernel
theorem dX7_faultOfBoarding_70 : decode cX7_faultOfBoarding 70 = .ok (.iaload, 1) := by decide +kernel
theorem dX7_faultOfBoarding_71 : decode cX7_faultOfBoarding 71 = .ok (.invokevirtual 106, 3) := by decide +kernel
theorem dX7_faultOfBoarding_74 : decode cX7_faultOfBoarding 74 = .ok (.ifCond .eq 5, 3) := by decide +kernel
theorem dX7_faultOfBoarding_77 : decode cX7_faultOfBoarding 77 = .ok (.iconst 0, 1) := by decide +kernel
theorem dX7_faultOfBoarding_78 : decode cX7_faultOfBoarding 78 = .ok (.ireturn, 1) := by decide +kernel
theorem dX7_faultOfBoarding_79 : decode cX7_faultOfBoarding 79 = .ok (.aload_n 0, 1) := by decide +kernel
theorem dX7_faultOfBoarding_80 : decode cX7_faultOfBoarding 80 = .ok (.getfield 28, 3) := by decide +kernel
theorem dX7_faultOfBoarding_83 : decode cX7_faultOfBoarding 83 = .ok (.getfield 87, 3) := by decide +kernel
theorem dX7_faultOfBoarding_86 : decode cX7_faultOfBoarding 86 = .ok (.iload_n 1, 1) := by decide +kernel
theorem dX7_faultOfBoarding_87 : decode cX7_faultOfBoarding 87 = .ok (.iaload, 1) := by decide +kernel
theorem dX7_faultOfBoarding_88 : decode cX7_faultOfBoarding 88 = .ok (.ifCond .le 27, 3) := by decide +kernel
theorem dX7_faultOfBoarding_91 : decode cX7_faultOfBoarding 91 = .ok (.aload_n 0, 1) := by decide +kernel
theorem dX7_faultOfBoarding_92 : decode cX7_faultOfBoarding 92 = .ok (.getfield 28, 3) := by decide +kernel
theorem dX7_faultOfBoarding_95 : decode cX7_faultOfBoarding 95 = .ok (.iload_n 1, 1) := by decide +kernel
theorem dX7_faultOfBoarding_96 : decode cX7_faultOfBoarding 96 = .ok (.aload_n 0, 1) := by decide +kernel
theorem dX7_faultOfBoarding_97 : decode cX7_faultOfBoarding 97 = .ok (.getfield 12, 3) := by decide +kernel
theorem dX7_faultOfBoarding_100 : decode cX7_faultOfBoarding 100 = .ok (.getfield 109, 3) := by decide +kernel
theorem dX7_faultOfBoarding_103 : decode cX7_faultOfBoarding 103 = .ok (.iload_n 3, 1) := by decide +kernel
theorem dX7_faultOfBoarding_104 : decode cX7_faultOfBoarding 104 = .ok (.iaload, 1) := by decide +kernel
theorem dX7_faultOfBoarding_105 : decode cX7_faultOfBoarding 105 = .ok (.invokevirtual 112, 3) := by decide +kernel
theorem dX7_faultOfBoarding_108 : decode cX7_faultOfBoarding 108 = .ok (.ifCond .eq 7, 3) := by decide +kernel
theorem dX7_faultOfBoarding_111 : decode cX7_faultOfBoarding 111 = .ok (.iconst 1, 1) := by decide +kernel
theorem dX7_faultOfBoarding_112 : decode cX7_faultOfBoarding 112 = .ok (.goto 4, 3) := by decide +kernel
theorem dX7_faultOfBoarding_115 : decode cX7_faultOfBoarding 115 = .ok (.iconst 0, 1) := by decide +kernel
theorem dX7_faultOfBoarding_116 : decode cX7_faultOfBoarding 116 = .ok (.istore 4, 2) := by decide +kernel
theorem dX7_faultOfBoarding_118 : decode cX7_faultOfBoarding 118 = .ok (.iload 4, 2) := by decide +kernel
theorem dX7_faultOfBoarding_120 : decode cX7_faultOfBoarding 120 = .ok (.ifCond .eq 7, 3) := by decide +kernel
theorem dX7_faultOfBoarding_123 : decode cX7_faultOfBoarding 123 = .ok (.iconst 0, 1) := by decide +kernel
theorem dX7_faultOfBoarding_124 : decode cX7_faultOfBoarding 124 = .ok (.goto 4, 3) := by decide +kernel
theorem dX7_faultOfBoarding_127 : decode cX7_faultOfBoarding 127 = .ok (.iconst 5, 1) := by decide +kernel
theorem dX7_faultOfBoarding_128 : decode cX7_faultOfBoarding 128 = .ok (.ireturn, 1) := by decide +kernel
theorem dX7_faultOfAlighting_0 : decode cX7_faultOfAlighting 0 = .ok (.aload_n 0, 1) := by decide +kernel
theorem dX7_faultOfAlighting_1 : decode cX7_faultOfAlighting 1 = .ok (.getfield 28, 3) := by decide +kernel
theorem dX7_faultOfAlighting_4 : decode cX7_faultOfAlighting 4 = .ok (.iload_n 1, 1) := by decide +kernel
theorem dX7_faultOfAlighting_5 : decode cX7_faultOfAlighting 5 = .ok (.invokevirtual 84, 3) := by decide +kernel
theorem dX7_faultOfAlighting_8 : decode cX7_faultOfAlighting 8 = .ok (.ifCond .ne 5, 3) := by decide +kernel
theorem dX7_faultOfAlighting_11 : decode cX7_faultOfAlighting 11 = .ok (.iconst 1, 1) := by decide +kernel
theorem dX7_faultOfAlighting_12 : decode cX7_faultOfAlighting 12 = .ok (.ireturn, 1) := by decide +kernel
theorem dX7_faultOfAlighting_13 : decode cX7_faultOfAlighting 13 = .ok (.aload_n 0, 1) := by decide +kernel
theorem dX7_faultOfAlighting_14 : decode cX7_faultOfAlighting 14 = .ok (.getfield 28, 3) := by decide +kernel
theorem dX7_faultOfAlighting_17 : decode cX7_faultOfAlighting 17 = .ok (.getfield 93, 3) := by decide +kernel
theorem dX7_faultOfAlighting_20 : decode cX7_faultOfAlighting 20 = .ok (.iload_n 1, 1) := by decide +kernel
theorem dX7_faultOfAlighting_21 : decode cX7_faultOfAlighting 21 = .ok (.iaload, 1) := by decide +kernel
theorem dX7_faultOfAlighting_22 : decode cX7_faultOfAlighting 22 = .ok (.iconst (-1), 1) := by decide +kernel
theorem dX7_faultOfAlighting_23 : decode cX7_faultOfAlighting 23 = .ok (.if_icmp .ne 7, 3) := by decide +kernel
theorem dX7_faultOfAlighting_26 : decode cX7_faultOfAlighting 26 = .ok (.iconst 3, 1) := by decide +kernel
theorem dX7_faultOfAlighting_27 : decode cX7_faultOfAlighting 27 = .ok (.goto 4, 3) := by decide +kernel
theorem dX7_faultOfAlighting_30 : decode cX7_faultOfAlighting 30 = .ok (.iconst 0, 1) := by decide +kernel
theorem dX7_faultOfAlighting_31 : decode cX7_faultOfAlighting 31 = .ok (.ireturn, 1) := by decide +kernel
theorem dX7_faultOfSecret_0 : decode cX7_faultOfSecret 0 = .ok (.aload_n 0, 1) := by decide +kernel
theorem dX7_faultOfSecret_1 : decode cX7_faultOfSecret 1 = .ok (.getfield 28, 3) := by decide +kernel
theorem dX7_faultOfSecret_4 : decode cX7_faultOfSecret 4 = .ok (.iload_n 1, 1) := by decide +kernel
theorem dX7_faultOfSecret_5 : decode cX7_faultOfSecret 5 = .ok (.invokevirtual 84, 3) := by decide +kernel
theorem dX7_faultOfSecret_8 : decode cX7_faultOfSecret 8 = .ok (.ifCond .ne 5, 3) := by decide +kernel
theorem dX7_faultOfSecret_11 : decode cX7_faultOfSecret 11 = .ok (.iconst 1, 1) := by decide +kernel
theorem dX7_faultOfSecret_12 : decode cX7_faultOfSecret 12 = .ok (.ireturn, 1) := by decide +kernel
theorem dX7_faultOfSecret_13 : decode cX7_faultOfSecret 13 = .ok (.aload_n 0, 1) := by decide +kernel
theorem dX7_faultOfSecret_14 : decode cX7_faultOfSecret 14 = .ok (.getfield 35, 3) := by decide +kernel
theorem dX7_faultOfSecret_17 : decode cX7_faultOfSecret 17 = .ok (.getfield 115, 3) := by decide +kernel
theorem dX7_faultOfSecret_20 : decode cX7_faultOfSecret 20 = .ok (.bipush 6, 2) := by decide +kernel
theorem dX7_faultOfSecret_22 : decode cX7_faultOfSecret 22 = .ok (.if_icmp .lt 7, 3) := by decide +kernel
theorem dX7_faultOfSecret_25 : decode cX7_faultOfSecret 25 = .ok (.iconst 3, 1) := by decide +kernel
theorem dX7_faultOfSecret_26 : decode cX7_faultOfSecret 26 = .ok (.goto 4, 3) := by decide +kernel
theorem dX7_faultOfSecret_29 : decode cX7_faultOfSecret 29 = .ok (.iconst 0, 1) := by decide +kernel
theorem dX7_faultOfSecret_30 : decode cX7_faultOfSecret 30 = .ok (.ireturn, 1) := by decide +kernel
theorem dX7_faultOfWhisper_0 : decode cX7_faultOfWhisper 0 = .ok (.aload_n 0, 1) := by decide +kernel
theorem dX7_faultOfWhisper_1 : decode cX7_faultOfWhisper 1 = .ok (.getfield 35, 3) := by decide +kernel
theorem dX7_faultOfWhisper_4 : decode cX7_faultOfWhisper 4 = .ok (.iload_n 1, 1) := by decide +kernel
theorem dX7_faultOfWhisper_5 : decode cX7_faultOfWhisper 5 = .ok (.invokevirtual 116, 3) := by decide +kernel
theorem dX7_faultOfWhisper_8 : decode cX7_faultOfWhisper 8 = .ok (.ifCond .eq 14, 3) := by decide +kernel
theorem dX7_faultOfWhisper_11 : decode cX7_faultOfWhisper 11 = .ok (.aload_n 0, 1) := by decide +kernel
theorem dX7_faultOfWhisper_12 : decode cX7_faultOfWhisper 12 = .ok (.getfield 28, 3) := by decide +kernel
theorem dX7_faultOfWhisper_15 : decode cX7_faultOfWhisper 15 = .ok (.iload_n 2, 1) := by decide +kernel
theorem dX7_faultOfWhisper_16 : decode cX7_faultOfWhisper 16 = .ok (.invokevirtual 84, 3) := by decide +kernel
theorem dX7_faultOfWhisper_19 : decode cX7_faultOfWhisper 19 = .ok (.ifCond .ne 5, 3) := by decide +kernel
theorem dX7_faultOfWhisper_22 : decode cX7_faultOfWhisper 22 = .ok (.iconst 1, 1) := by decide +kernel
theorem dX7_faultOfWhisper_23 : decode cX7_faultOfWhisper 23 = .ok (.ireturn, 1) := by decide +kernel
theorem dX7_faultOfWhisper_24 : decode cX7_faultOfWhisper 24 = .ok (.aload_n 0, 1) := by decide +kernel
theorem dX7_faultOfWhisper_25 : decode cX7_faultOfWhisper 25 = .ok (.getfield 35, 3) := by decide +kernel
theorem dX7_faultOfWhisper_28 : decode cX7_faultOfWhisper 28 = .ok (.iload_n 1, 1) := by decide +kernel
theorem dX7_faultOfWhisper_29 : decode cX7_faultOfWhisper 29 = .ok (.invokevirtual 119, 3) := by decide +kernel
theorem dX7_faultOfWhisper_32 : decode cX7_faultOfWhisper 32 = .ok (.ifCond .eq 5, 3) := by decide +kernel
theorem dX7_faultOfWhisper_35 : decode cX7_faultOfWhisper 35 = .ok (.iconst 3, 1) := by decide +kernel
theorem dX7_faultOfWhisper_36 : decode cX7_faultOfWhisper 36 = .ok (.ireturn, 1) := by decide +kernel
theorem dX7_faultOfWhisper_37 : decode cX7_faultOfWhisper 37 = .ok (.aload_n 0, 1) := by decide +kernel
theorem dX7_faultOfWhisper_38 : decode cX7_faultOfWhisper 38 = .ok (.getfield 35, 3) := by decide +kernel
theorem dX7_faultOfWhisper_41 : decode cX7_faultOfWhisper 41 = .ok (.getfield 122, 3) := by decide +kernel
theorem dX7_faultOfWhisper_44 : decode cX7_faultOfWhisper 44 = .ok (.iload_n 1, 1) := by decide +kernel
theorem dX7_faultOfWhisper_45 : decode cX7_faultOfWhisper 45 = .ok (.iaload, 1) := by decide +kernel
theorem dX7_faultOfWhisper_46 : decode cX7_faultOfWhisper 46 = .ok (.istore_n 3, 1) := by decide +kernel
theorem dX7_faultOfWhisper_47 : decode cX7_faultOfWhisper 47 = .ok (.aload_n 0, 1) := by decide +kernel
theorem dX7_faultOfWhisper_48 : decode cX7_faultOfWhisper 48 = .ok (.getfield 28, 3) := by decide +kernel
theorem dX7_faultOfWhisper_51 : decode cX7_faultOfWhisper 51 = .ok (.getfield 93, 3) := by decide +kernel
theorem dX7_faultOfWhisper_54 : decode cX7_faultOfWhisper 54 = .ok (.iload_n 3, 1) := by decide +kernel
theorem dX7_faultOfWhisper_55 : decode cX7_faultOfWhisper 55 = .ok (.iaload, 1) := by decide +kernel
theorem dX7_faultOfWhisper_56 : decode cX7_faultOfWhisper 56 = .ok (.istore 4, 2) := by decide +kernel
theorem dX7_faultOfWhisper_58 : decode cX7_faultOfWhisper 58 = .ok (.iload 4, 2) := by decide +kernel
theorem dX7_faultOfWhisper_60 : decode cX7_faultOfWhisper 60 = .ok (.iconst (-1), 1) := by decide +kernel
theorem dX7_faultOfWhisper_61 : decode cX7_faultOfWhisper 61 = .ok (.if_icmp .eq 21, 3) := by decide +kernel
theorem dX7_faultOfWhisper_64 : decode cX7_faultOfWhisper 64 = .ok (.aload_n 0, 1) := by decide +kernel
theorem dX7_faultOfWhisper_65 : decode cX7_faultOfWhisper 65 = .ok (.getfield 28, 3) := by decide +kernel
theorem dX7_faultOfWhisper_68 : decode cX7_faultOfWhisper 68 = .ok (.getfield 93, 3) := by decide +kernel
theorem dX7_faultOfWhisper_71 : decode cX7_faultOfWhisper 71 = .ok (.iload_n 2, 1) := by decide +kernel
theorem dX7_faultOfWhisper_72 : decode cX7_faultOfWhisper 72 = .ok (.iaload, 1) := by decide +kernel
theorem dX7_faultOfWhisper_73 : decode cX7_faultOfWhisper 73 = .ok (.iload 4, 2) := by decide +kernel
theorem dX7_faultOfWhisper_75 : decode cX7_faultOfWhisper 75 = .ok (.if_icmp .ne 7, 3) := by decide +kernel
theorem dX7_faultOfWhisper_78 : decode cX7_faultOfWhisper 78 = .ok (.iconst 1, 1) := by decide +kernel
theorem dX7_faultOfWhisper_79 : decode cX7_faultOfWhisper 79 = .ok (.goto 4, 3) := by decide +kernel
theorem dX7_faultOfWhisper_82 : decode cX7_faultOfWhisper 82 = .ok (.iconst 0, 1) := by decide +kernel
theorem dX7_faultOfWhisper_83 : decode cX7_faultOfWhisper 83 = .ok (.istore 5, 2) := by decide +kernel
theorem dX7_faultOfWhisper_85 : decode cX7_faultOfWhisper 85 = .ok (.iload_n 2, 1) := by decide +kernel
theorem dX7_faultOfWhisper_86 : decode cX7_faultOfWhisper 86 = .ok (.iload_n 3, 1) := by decide +kernel
theorem dX7_faultOfWhisper_87 : decode cX7_faultOfWhisper 87 = .ok (.if_icmp .eq 12, 3) := by decide +kernel
theorem dX7_faultOfWhisper_90 : decode cX7_faultOfWhisper 90 = .ok (.iload 5, 2) := by decide +kernel
theorem dX7_faultOfWhisper_92 : decode cX7_faultOfWhisper 92 = .ok (.ifCond .eq 7, 3) := by decide +kernel
theorem dX7_faultOfWhisper_95 : decode cX7_faultOfWhisper 95 = .ok (.iconst 0, 1) := by decide +kernel
theorem dX7_faultOfWhisper_96 : decode cX7_faultOfWhisper 96 = .ok (.goto 4, 3) := by decide +kernel
theorem dX7_faultOfWhisper_99 : decode cX7_faultOfWhisper 99 = .ok (.iconst 5, 1) := by decide +kernel
theorem dX7_faultOfWhisper_100 : decode cX7_faultOfWhisper 100 = .ok (.ireturn, 1) := by decide +kernel
theorem dX7_passTick_0 : decode cX7_passTick 0 = .ok (.aload_n 0, 1) := by decide +kernel
theorem dX7_passTick_1 : decode cX7_passTick 1 = .ok (.dup, 1) := by decide +kernel
theorem dX7_passTick_2 : decode cX7_passTick 2 = .ok (.getfield 52, 3) := by decide +kernel
theorem dX7_passTick_5 : decode cX7_passTick 5 = .ok (.iconst 1, 1) := by decide +kernel
theorem dX7_passTick_6 : decode cX7_passTick 6 = .ok (.iadd, 1) := by decide +kernel
theorem dX7_passTick_7 : decode cX7_passTick 7 = .ok (.putfield 52, 3) := by decide +kernel
theorem dX7_passTick_10 : decode cX7_passTick 10 = .ok (.aload_n 0, 1) := by decide +kernel
theorem dX7_passTick_11 : decode cX7_passTick 11 = .ok (.getfield 21, 3) := by decide +kernel
theorem dX7_passTick_14 : decode cX7_passTick 14 = .ok (.aload_n 0, 1) := by decide +kernel
theorem dX7_passTick_15 : decode cX7_passTick 15 = .ok (.getfield 12, 3) := by decide +kernel
theorem dX7_passTick_18 : decode cX7_passTick 18 = .ok (.invokevirtual 125, 3) := by decide +kernel
theorem dX7_passTick_21 : decode cX7_passTick 21 = .ok (.ireturn, 1) := by decide +kernel
theorem dX7_letBoard_0 : decode cX7_letBoard 0 = .ok (.aload_n 0, 1) := by decide +kernel
theorem dX7_letBoard_1 : decode cX7_letBoard 1 = .ok (.iload_n 1, 1) := by decide +kernel
theorem dX7_letBoard_2 : decode cX7_letBoard 2 = .ok (.aload_n 0, 1) := by decide +kernel
theorem dX7_letBoard_3 : decode cX7_letBoard 3 = .ok (.getfield 21, 3) := by decide +kernel
theorem dX7_letBoard_6 : decode cX7_letBoard 6 = .ok (.getfield 103, 3) := by decide +kernel
theorem dX7_letBoard_9 : decode cX7_letBoard 9 = .ok (.iload_n 2, 1) := by decide +kernel
theorem dX7_letBoard_10 : decode cX7_letBoard 10 = .ok (.iaload, 1) := by decide +kernel
theorem dX7_letBoard_11 : decode cX7_letBoard 11 = .ok (.invokevirtual 106, 3) := by decide +kernel
theorem dX7_letBoard_14 : decode cX7_letBoard 14 = .ok (.istore_n 3, 1) := by decide +kernel
theorem dX7_letBoard_15 : decode cX7_letBoard 15 = .ok (.iload_n 3, 1) := by decide +kernel
theorem dX7_letBoard_16 : decode cX7_letBoard 16 = .ok (.ifCond .ne 16, 3) := by decide +kernel
theorem dX7_letBoard_19 : decode cX7_letBoard 19 = .ok (.aload_n 0, 1) := by decide +kernel
theorem dX7_letBoard_20 : decode cX7_letBoard 20 = .ok (.getfield 28, 3) := by decide +kernel
theorem dX7_letBoard_23 : decode cX7_letBoard 23 = .ok (.getfield 87, 3) := by decide +kernel
theorem dX7_letBoard_26 : decode cX7_letBoard 26 = .ok (.iload_n 1, 1) := by decide +kernel
theorem dX7_letBoard_27 : decode cX7_letBoard 27 = .ok (.dup2, 1) := by decide +kernel
theorem dX7_letBoard_28 : decode cX7_letBoard 28 = .ok (.iaload, 1) := by decide +kernel
theorem dX7_letBoard_29 : decode cX7_letBoard 29 = .ok (.iconst 1, 1) := by decide +kernel
theorem dX7_letBoard_30 : decode cX7_letBoard 30 = .ok (.isub, 1) := by decide +kernel
theorem dX7_letBoard_31 : decode cX7_letBoard 31 = .ok (.iastore, 1) := by decide +kernel
theorem dX7_letBoard_32 : decode cX7_letBoard 32 = .ok (.aload_n 0, 1) := by decide +kernel
theorem dX7_letBoard_33 : decode cX7_letBoard 33 = .ok (.getfield 28, 3) := by decide +kernel
theorem dX7_letBoard_36 : decode cX7_letBoard 36 = .ok (.getfield 96, 3) := by decide +kernel
theorem dX7_letBoard_39 : decode cX7_letBoard 39 = .ok (.iload_n 1, 1) := by decide +kernel
theorem dX7_letBoard_40 : decode cX7_letBoard 40 = .ok (.iconst (-1), 1) := by decide +kernel
theorem dX7_letBoard_41 : decode cX7_letBoard 41 = .ok (.iastore, 1) := by decide +kernel
theorem dX7_letBoard_42 : decode cX7_letBoard 42 = .ok (.aload_n 0, 1) := by decide +kernel
theorem dX7_letBoard_43 : decode cX7_letBoard 43 = .ok (.getfield 28, 3) := by decide +kernel
theorem dX7_letBoard_46 : decode cX7_letBoard 46 = .ok (.getfield 93, 3) := by decide +kernel
theorem dX7_letBoard_49 : decode cX7_letBoard 49 = .ok (.iload_n 1, 1) := by decide +kernel
theorem dX7_letBoard_50 : decode cX7_letBoard 50 = .ok (.iload_n 2, 1) := by decide +kernel
theorem dX7_letBoard_51 : decode cX7_letBoard 51 = .ok (.iastore, 1) := by decide +kernel
theorem dX7_letBoard_52 : decode cX7_letBoard 52 = .ok (.iload_n 3, 1) := by decide +kernel
theorem dX7_letBoard_53 : decode cX7_letBoard 53 = .ok (.ifCond .ne 7, 3) := by decide +kernel
theorem dX7_letBoard_56 : decode cX7_letBoard 56 = .ok (.iconst 1, 1) := by decide +kernel
theorem dX7_letBoard_57 : decode cX7_letBoard 57 = .ok (.goto 4, 3) := by decide +kernel
theorem dX7_letBoard_60 : decode cX7_letBoard 60 = .ok (.iconst 0, 1) := by decide +kernel
theorem dX7_letBoard_61 : decode cX7_letBoard 61 = .ok (.ireturn, 1) := by decide +kernel
theorem dX7_letAlight_0 : decode cX7_letAlight 0 = .ok (.aload_n 0, 1) := by decide +kernel
theorem dX7_letAlight_1 : decode cX7_letAlight 1 = .ok (.getfield 28, 3) := by decide +kernel
theorem dX7_letAlight_4 : decode cX7_letAlight 4 = .ok (.getfield 93, 3) := by decide +kernel
theorem dX7_letAlight_7 : decode cX7_letAlight 7 = .ok (.iload_n 1, 1) := by decide +kernel
theorem dX7_letAlight_8 : decode cX7_letAlight 8 = .ok (.iaload, 1) := by decide +kernel
theorem dX7_letAlight_9 : decode cX7_letAlight 9 = .ok (.istore_n 2, 1) := by decide +kernel
theorem dX7_letAlight_10 : decode cX7_letAlight 10 = .ok (.aload_n 0, 1) := by decide +kernel
theorem dX7_letAlight_11 : decode cX7_letAlight 11 = .ok (.iload_n 2, 1) := by decide +kernel
theorem dX7_letAlight_12 : decode cX7_letAlight 12 = .ok (.invokevirtual 99, 3) := by decide +kernel
theorem dX7_letAlight_15 : decode cX7_letAlight 15 = .ok (.istore_n 3, 1) := by decide +kernel
theorem dX7_letAlight_16 : decode cX7_letAlight 16 = .ok (.aload_n 0, 1) := by decide +kernel
theorem dX7_letAlight_17 : decode cX7_letAlight 17 = .ok (.getfield 28, 3) := by decide +kernel
theorem dX7_letAlight_20 : decode cX7_letAlight 20 = .ok (.getfield 93, 3) := by decide +kernel
theorem dX7_letAlight_23 : decode cX7_letAlight 23 = .ok (.iload_n 1, 1) := by decide +kernel
theorem dX7_letAlight_24 : decode cX7_letAlight 24 = .ok (.iconst (-1), 1) := by decide +kernel
theorem dX7_letAlight_25 : decode cX7_letAlight 25 = .ok (.iastore, 1) := by decide +kernel
theorem dX7_letAlight_26 : decode cX7_letAlight 26 = .ok (.aload_n 0, 1) := by decide +kernel
theorem dX7_letAlight_27 : decode cX7_letAlight 27 = .ok (.getfield 28, 3) := by decide +kernel
theorem dX7_letAlight_30 : decode cX7_letAlight 30 = .ok (.getfield 96, 3) := by decide +kernel
theorem dX7_letAlight_33 : decode cX7_letAlight 33 = .ok (.iload_n 1, 1) := by decide +kernel
theorem dX7_letAlight_34 : decode cX7_letAlight 34 = .ok (.iload_n 3, 1) := by decide +kernel
theorem dX7_letAlight_35 : decode cX7_letAlight 35 = .ok (.iastore, 1) := by decide +kernel
theorem dX7_letAlight_36 : decode cX7_letAlight 36 = .ok (.aload_n 0, 1) := by decide +kernel
theorem dX7_letAlight_37 : decode cX7_letAlight 37 = .ok (.getfield 28, 3) := by decide +kernel
theorem dX7_letAlight_40 : decode cX7_letAlight 40 = .ok (.getfield 129, 3) := by decide +kernel
theorem dX7_letAlight_43 : decode cX7_letAlight 43 = .ok (.iload_n 1, 1) := by decide +kernel
theorem dX7_letAlight_44 : decode cX7_letAlight 44 = .ok (.aload_n 0, 1) := by decide +kernel
theorem dX7_letAlight_45 : decode cX7_letAlight 45 = .ok (.getfield 21, 3) := by decide +kernel
theorem dX7_letAlight_48 : decode cX7_letAlight 48 = .ok (.getfield 103, 3) := by decide +kernel
theorem dX7_letAlight_51 : decode cX7_letAlight 51 = .ok (.iload_n 2, 1) := by decide +kernel
theorem dX7_letAlight_52 : decode cX7_letAlight 52 = .ok (.iaload, 1) := by decide +kernel
theorem dX7_letAlight_53 : decode cX7_letAlight 53 = .ok (.iastore, 1) := by decide +kernel
theorem dX7_letAlight_54 : decode cX7_letAlight 54 = .ok (.aload_n 0, 1) := by decide +kernel
theorem dX7_letAlight_55 : decode cX7_letAlight 55 = .ok (.getfield 28, 3) := by decide +kernel
theorem dX7_letAlight_58 : decode cX7_letAlight 58 = .ok (.getfield 132, 3) := by decide +kernel
theorem dX7_letAlight_61 : decode cX7_letAlight 61 = .ok (.iload_n 1, 1) := by decide +kernel
theorem dX7_letAlight_62 : decode cX7_letAlight 62 = .ok (.aload_n 0, 1) := by decide +kernel
theorem dX7_letAlight_63 : decode cX7_letAlight 63 = .ok (.getfield 52, 3) := by decide +kernel
theorem dX7_letAlight_66 : decode cX7_letAlight 66 = .ok (.iastore, 1) := by decide +kernel
theorem dX7_letAlight_67 : decode cX7_letAlight 67 = .ok (.aload_n 0, 1) := by decide +kernel
theorem dX7_letAlight_68 : decode cX7_letAlight 68 = .ok (.getfield 12, 3) := by decide +kernel
theorem dX7_letAlight_71 : decode cX7_letAlight 71 = .ok (.iload_n 3, 1) := by decide +kernel
theorem dX7_letAlight_72 : decode cX7_letAlight 72 = .ok (.invokevirtual 135, 3) := by decide +kernel
theorem dX7_letAlight_75 : decode cX7_letAlight 75 = .ok (.ifCond .eq 11, 3) := by decide +kernel
theorem dX7_letAlight_78 : decode cX7_letAlight 78 = .ok (.aload_n 0, 1) := by decide +kernel
theorem dX7_letAlight_79 : decode cX7_letAlight 79 = .ok (.getfield 35, 3) := by decide +kernel
theorem dX7_letAlight_82 : decode cX7_letAlight 82 = .ok (.iload_n 1, 1) := by decide +kernel
theorem dX7_letAlight_83 : decode cX7_letAlight 83 = .ok (.invokevirtual 138, 3) := by decide +kernel
theorem dX7_letAlight_86 : decode cX7_letAlight 86 = .ok (.iload_n 3, 1) := by decide +kernel
theorem dX7_letAlight_87 : decode cX7_letAlight 87 = .ok (.ireturn, 1) := by decide +kernel
theorem dX7_spread_0 : decode cX7_spread 0 = .ok (.aload_n 0, 1) := by decide +kernel
theorem dX7_spread_1 : decode cX7_spread 1 = .ok (.getfield 28, 3) := by decide +kernel
theorem dX7_spread_4 : decode cX7_spread 4 = .ok (.getfield 93, 3) := by decide +kernel
theorem dX7_spread_7 : decode cX7_spread 7 = .ok (.iload_n 2, 1) := by decide +kernel
theorem dX7_spread_8 : decode cX7_spread 8 = .ok (.iaload, 1) := by decide +kernel
theorem dX7_spread_9 : decode cX7_spread 9 = .ok (.istore_n 3, 1) := by decide +kernel
theorem dX7_spread_10 : decode cX7_spread 10 = .ok (.aload_n 0, 1) := by decide +kernel
theorem dX7_spread_11 : decode cX7_spread 11 = .ok (.getfield 35, 3) := by decide +kernel
theorem dX7_spread_14 : decode cX7_spread 14 = .ok (.getfield 122, 3) := by decide +kernel
theorem dX7_spread_17 : decode cX7_spread 17 = .ok (.iload_n 1, 1) := by decide +kernel
theorem dX7_spread_18 : decode cX7_spread 18 = .ok (.iload_n 2, 1) := by decide +kernel
theorem dX7_spread_19 : decode cX7_spread 19 = .ok (.iastore, 1) := by decide +kernel
theorem dX7_spread_20 : decode cX7_spread 20 = .ok (.iconst 0, 1) := by decide +kernel
theorem dX7_spread_21 : decode cX7_spread 21 = .ok (.istore 4, 2) := by decide +kernel
theorem dX7_spread_23 : decode cX7_spread 23 = .ok (.iload 4, 2) := by decide +kernel
theorem dX7_spread_25 : decode cX7_spread 25 = .ok (.aload_n 0, 1) := by decide +kernel
theorem dX7_spread_26 : decode cX7_spread 26 = .ok (.getfield 28, 3) := by decide +kernel
theorem dX7_spread_29 : decode cX7_spread 29 = .ok (.getfield 83, 3) := by decide +kernel
theorem dX7_spread_32 : decode cX7_spread 32 = .ok (.if_icmp .ge 33, 3) := by decide +kernel
theorem dX7_spread_35 : decode cX7_spread 35 = .ok (.aload_n 0, 1) := by decide +kernel
theorem dX7_spread_36 : decode cX7_spread 36 = .ok (.getfield 28, 3) := by decide +kernel
theorem dX7_spread_39 : decode cX7_spread 39 = .ok (.getfield 93, 3) := by decide +kernel
theorem dX7_spread_42 : decode cX7_spread 42 = .ok (.iload 4, 2) := by decide +kernel
theorem dX7_spread_44 : decode cX7_spread 44 = .ok (.iaload, 1) := by decide +kernel
theorem dX7_spread_45 : decode cX7_spread 45 = .ok (.iload_n 3, 1) := by decide +kernel
theorem dX7_spread_46 : decode cX7_spread 46 = .ok (.if_icmp .ne 13, 3) := by decide +kernel
theorem dX7_spread_49 : decode cX7_spread 49 = .ok (.aload_n 0, 1) := by decide +kernel
theorem dX7_spread_50 : decode cX7_spread 50 = .ok (.getfield 35, 3) := by decide +kernel
theorem dX7_spread_53 : decode cX7_spread 53 = .ok (.iload 4, 2) := by decide +kernel
theorem dX7_spread_55 : decode cX7_spread 55 = .ok (.iload_n 1, 1) := by decide +kernel
theorem dX7_spread_56 : decode cX7_spread 56 = .ok (.invokevirtual 142, 3) := by decide +kernel
theorem dX7_spread_59 : decode cX7_spread 59 = .ok (.iinc 4 1, 3) := by decide +kernel
theorem dX7_spread_62 : decode cX7_spread 62 = .ok (.goto (-39), 3) := by decide +kernel
theorem dX7_spread_65 : decode cX7_spread 65 = .ok (.aload_n 0, 1) := by decide +kernel
theorem dX7_spread_66 : decode cX7_spread 66 = .ok (.getfield 35, 3) := by decide +kernel
theorem dX7_spread_69 : decode cX7_spread 69 = .ok (.iload_n 1, 1) := by decide +kernel
theorem dX7_spread_70 : decode cX7_spread 70 = .ok (.invokevirtual 146, 3) := by decide +kernel
theorem dX7_spread_73 : decode cX7_spread 73 = .ok (.ireturn, 1) := by decide +kernel
theorem dX7_stopUnder_0 : decode cX7_stopUnder 0 = .ok (.aload_n 0, 1) := by decide +kernel
theorem dX7_stopUnder_1 : decode cX7_stopUnder 1 = .ok (.getfield 12, 3) := by decide +kernel
theorem dX7_stopUnder_4 : decode cX7_stopUnder 4 = .ok (.getfield 149, 3) := by decide +kernel
theorem dX7_stopUnder_7 : decode cX7_stopUnder 7 = .ok (.aload_n 0, 1) := by decide +kernel
theorem dX7_stopUnder_8 : decode cX7_stopUnder 8 = .ok (.getfield 21, 3) := by decide +kernel
theorem dX7_stopUnder_11 : decode cX7_stopUnder 11 = .ok (.getfield 103, 3) := by decide +kernel
theorem dX7_stopUnder_14 : decode cX7_stopUnder 14 = .ok (.iload_n 1, 1) := by decide +kernel
theorem dX7_stopUnder_15 : decode cX7_stopUnder 15 = .ok (.iaload, 1) := by decide +kernel
theorem dX7_stopUnder_16 : decode cX7_stopUnder 16 = .ok (.aaload, 1) := by decide +kernel
theorem dX7_stopUnder_17 : decode cX7_stopUnder 17 = .ok (.aload_n 0, 1) := by decide +kernel
theorem dX7_stopUnder_18 : decode cX7_stopUnder 18 = .ok (.getfield 21, 3) := by decide +kernel
theorem dX7_stopUnder_21 : decode cX7_stopUnder 21 = .ok (.getfield 153, 3) := by decide +kernel
theorem dX7_stopUnder_24 : decode cX7_stopUnder 24 = .ok (.iload_n 1, 1) := by decide +kernel
theorem dX7_stopUnder_25 : decode cX7_stopUnder 25 = .ok (.iaload, 1) := by decide +kernel
theorem dX7_stopUnder_26 : decode cX7_stopUnder 26 = .ok (.iaload, 1) := by decide +kernel
theorem dX7_stopUnder_27 : decode cX7_stopUnder 27 = .ok (.ireturn, 1) := by decide +kernel
theorem dX7_wouldTransfer_0 : decode cX7_wouldTransfer 0 = .ok (.aload_n 0, 1) := by decide +kernel
theorem dX7_wouldTransfer_1 : decode cX7_wouldTransfer 1 = .ok (.getfield 28, 3) := by decide +kernel
theorem dX7_wouldTransfer_4 : decode cX7_wouldTransfer 4 = .ok (.getfield 93, 3) := by decide +kernel
theorem dX7_wouldTransfer_7 : decode cX7_wouldTransfer 7 = .ok (.iload_n 1, 1) := by decide +kernel
theorem dX7_wouldTransfer_8 : decode cX7_wouldTransfer 8 = .ok (.iaload, 1) := by decide +kernel
theorem dX7_wouldTransfer_9 : decode cX7_wouldTransfer 9 = .ok (.iconst (-1), 1) := by decide +kernel
theorem dX7_wouldTransfer_10 : decode cX7_wouldTransfer 10 = .ok (.if_icmp .ne 16, 3) := by decide +kernel
theorem dX7_wouldTransfer_13 : decode cX7_wouldTransfer 13 = .ok (.aload_n 0, 1) := by decide +kernel
theorem dX7_wouldTransfer_14 : decode cX7_wouldTransfer 14 = .ok (.getfield 28, 3) := by decide +kernel
theorem dX7_wouldTransfer_17 : decode cX7_wouldTransfer 17 = .ok (.getfield 129, 3) := by decide +kernel
theorem dX7_wouldTransfer_20 : decode cX7_wouldTransfer 20 = .ok (.iload_n 1, 1) := by decide +kernel
theorem dX7_wouldTransfer_21 : decode cX7_wouldTransfer 21 = .ok (.iaload, 1) := by decide +kernel
theorem dX7_wouldTransfer_22 : decode cX7_wouldTransfer 22 = .ok (.iconst (-1), 1) := by decide +kernel
theorem dX7_wouldTransfer_23 : decode cX7_wouldTransfer 23 = .ok (.if_icmp .ne 5, 3) := by decide +kernel
theorem dX7_wouldTransfer_26 : decode cX7_wouldTransfer 26 = .ok (.iconst 0, 1) := by decide +kernel
theorem dX7_wouldTransfer_27 : decode cX7_wouldTransfer 27 = .ok (.ireturn, 1) := by decide +kernel
theorem dX7_wouldTransfer_28 : decode cX7_wouldTransfer 28 = .ok (.aload_n 0, 1) := by decide +kernel
theorem dX7_wouldTransfer_29 : decode cX7_wouldTransfer 29 = .ok (.getfield 28, 3) := by decide +kernel
theorem dX7_wouldTransfer_32 : decode cX7_wouldTransfer 32 = .ok (.getfield 129, 3) := by decide +kernel
theorem dX7_wouldTransfer_35 : decode cX7_wouldTransfer 35 = .ok (.iload_n 1, 1) := by decide +kernel
theorem dX7_wouldTransfer_36 : decode cX7_wouldTransfer 36 = .ok (.iaload, 1) := by decide +kernel
theorem dX7_wouldTransfer_37 : decode cX7_wouldTransfer 37 = .ok (.iload_n 2, 1) := by decide +kernel
theorem dX7_wouldTransfer_38 : decode cX7_wouldTransfer 38 = .ok (.if_icmp .eq 25, 3) := by decide +kernel
theorem dX7_wouldTransfer_41 : decode cX7_wouldTransfer 41 = .ok (.aload_n 0, 1) := by decide +kernel
theorem dX7_wouldTransfer_42 : decode cX7_wouldTransfer 42 = .ok (.getfield 52, 3) := by decide +kernel
theorem dX7_wouldTransfer_45 : decode cX7_wouldTransfer 45 = .ok (.aload_n 0, 1) := by decide +kernel
theorem dX7_wouldTransfer_46 : decode cX7_wouldTransfer 46 = .ok (.getfield 28, 3) := by decide +kernel
theorem dX7_wouldTransfer_49 : decode cX7_wouldTransfer 49 = .ok (.getfield 132, 3) := by decide +kernel
theorem dX7_wouldTransfer_52 : decode cX7_wouldTransfer 52 = .ok (.iload_n 1, 1) := by decide +kernel
theorem dX7_wouldTransfer_53 : decode cX7_wouldTransfer 53 = .ok (.iaload, 1) := by decide +kernel
theorem dX7_wouldTransfer_54 : decode cX7_wouldTransfer 54 = .ok (.isub, 1) := by decide +kernel
theorem dX7_wouldTransfer_55 : decode cX7_wouldTransfer 55 = .ok (.iconst 1, 1) := by decide +kernel
theorem dX7_wouldTransfer_56 : decode cX7_wouldTransfer 56 = .ok (.if_icmp .gt 7, 3) := by decide +kernel
theorem dX7_wouldTransfer_59 : decode cX7_wouldTransfer 59 = .ok (.iconst 1, 1) := by decide +kernel
theorem dX7_wouldTransfer_60 : decode cX7_wouldTransfer 60 = .ok (.goto 4, 3) := by decide +kernel
theorem dX7_wouldTransfer_63 : decode cX7_wouldTransfer 63 = .ok (.iconst 0, 1) := by decide +kernel
theorem dX7_wouldTransfer_64 : decode cX7_wouldTransfer 64 = .ok (.ireturn, 1) := by decide +kernel
theorem dX7_countWiser_0 : decode cX7_countWiser 0 = .ok (.aload_n 0, 1) := by decide +kernel
theorem dX7_countWiser_1 : decode cX7_countWiser 1 = .ok (.getfield 35, 3) := by decide +kernel
theorem dX7_countWiser_4 : decode cX7_countWiser 4 = .ok (.iload_n 1, 1) := by decide +kernel
theorem dX7_countWiser_5 : decode cX7_countWiser 5 = .ok (.invokevirtual 156, 3) := by decide +kernel
theorem dX7_countWiser_8 : decode cX7_countWiser 8 = .ok (.istore_n 2, 1) := by decide +kernel
theorem dX7_countWiser_9 : decode cX7_countWiser 9 = .ok (.iconst 0, 1) := by decide +kernel
theorem dX7_countWiser_10 : decode cX7_countWiser 10 = .ok (.istore_n 3, 1) := by decide +kernel
theorem dX7_countWiser_11 : decode cX7_countWiser 11 = .ok (.iconst 0, 1) := by decide +kernel
theorem dX7_countWiser_12 : decode cX7_countWiser 12 = .ok (.istore 4, 2) := by decide +kernel
theorem dX7_countWiser_14 : decode cX7_countWiser 14 = .ok (.iload 4, 2) := by decide +kernel
theorem dX7_countWiser_16 : decode cX7_countWiser 16 = .ok (.aload_n 0, 1) := by decide +kernel
theorem dX7_countWiser_17 : decode cX7_countWiser 17 = .ok (.getfield 28, 3) := by decide +kernel
theorem dX7_countWiser_20 : decode cX7_countWiser 20 = .ok (.getfield 83, 3) := by decide +kernel
theorem dX7_countWiser_23 : decode cX7_countWiser 23 = .ok (.if_icmp .ge 41, 3) := by decide +kernel
theorem dX7_countWiser_26 : decode cX7_countWiser 26 = .ok (.aload_n 0, 1) := by decide +kernel
theorem dX7_countWiser_27 : decode cX7_countWiser 27 = .ok (.getfield 35, 3) := by decide +kernel
theorem dX7_countWiser_30 : decode cX7_countWiser 30 = .ok (.iload 4, 2) := by decide +kernel
theorem dX7_countWiser_32 : decode cX7_countWiser 32 = .ok (.invokevirtual 156, 3) := by decide +kernel
theorem dX7_countWiser_35 : decode cX7_countWiser 35 = .ok (.istore 5, 2) := by decide +kernel
theorem dX7_countWiser_37 : decode cX7_countWiser 37 = .ok (.iload 5, 2) := by decide +kernel
theorem dX7_countWiser_39 : decode cX7_countWiser 39 = .ok (.iload_n 2, 1) := by decide +kernel
theorem dX7_countWiser_40 : decode cX7_countWiser 40 = .ok (.if_icmp .gt 15, 3) := by decide +kernel
theorem dX7_countWiser_43 : decode cX7_countWiser 43 = .ok (.iload 5, 2) := by decide +kernel
theorem dX7_countWiser_45 : decode cX7_countWiser 45 = .ok (.iload_n 2, 1) := by decide +kernel
theorem dX7_countWiser_46 : decode cX7_countWiser 46 = .ok (.if_icmp .ne 12, 3) := by decide +kernel
theorem dX7_countWiser_49 : decode cX7_countWiser 49 = .ok (.iload 4, 2) := by decide +kernel
theorem dX7_countWiser_51 : decode cX7_countWiser 51 = .ok (.iload_n 1, 1) := by decide +kernel
theorem dX7_countWiser_52 : decode cX7_countWiser 52 = .ok (.if_icmp .ge 6, 3) := by decide +kernel
theorem dX7_countWiser_55 : decode cX7_countWiser 55 = .ok (.iinc 3 1, 3) := by decide +kernel
theorem dX7_countWiser_58 : decode cX7_countWiser 58 = .ok (.iinc 4 1, 3) := by decide +kernel
theorem dX7_countWiser_61 : decode cX7_countWiser 61 = .ok (.goto (-47), 3) := by decide +kernel
theorem dX7_countWiser_64 : decode cX7_countWiser 64 = .ok (.iload_n 3, 1) := by decide +kernel
theorem dX7_countWiser_65 : decode cX7_countWiser 65 = .ok (.ireturn, 1) := by decide +kernel
theorem dX7_ticksByFormula_0 : decode cX7_ticksByFormula 0 = .ok (.aload_n 0, 1) := by decide +kernel
theorem dX7_ticksByFormula_1 : decode cX7_ticksByFormula 1 = .ok (.getfield 21, 3) := by decide +kernel
theorem dX7_ticksByFormula_4 : decode cX7_ticksByFormula 4 = .ok (.getfield 103, 3) := by decide +kernel
theorem dX7_ticksByFormula_7 : decode cX7_ticksByFormula 7 = .ok (.iload_n 1, 1) := by decide +kernel
theorem dX7_ticksByFormula_8 : decode cX7_ticksByFormula 8 = .ok (.iaload, 1) := by decide +kernel
theorem dX7_ticksByFormula_9 : decode cX7_ticksByFormula 9 = .ok (.istore_n 3, 1) := by decide +kernel
theorem dX7_ticksByFormula_10 : decode cX7_ticksByFormula 10 = .ok (.aload_n 0, 1) := by decide +kernel
theorem dX7_ticksByFormula_11 : decode cX7_ticksByFormula 11 = .ok (.getfield 12, 3) := by decide +kernel
theorem dX7_ticksByFormula_14 : decode cX7_ticksByFormula 14 = .ok (.iload_n 3, 1) := by decide +kernel
theorem dX7_ticksByFormula_15 : decode cX7_ticksByFormula 15 = .ok (.iload_n 2, 1) := by decide +kernel
theorem dX7_ticksByFormula_16 : decode cX7_ticksByFormula 16 = .ok (.invokevirtual 159, 3) := by decide +kernel
theorem dX7_ticksByFormula_19 : decode cX7_ticksByFormula 19 = .ok (.istore 4, 2) := by decide +kernel
theorem dX7_ticksByFormula_21 : decode cX7_ticksByFormula 21 = .ok (.iload 4, 2) := by decide +kernel
theorem dX7_ticksByFormula_23 : decode cX7_ticksByFormula 23 = .ok (.iconst (-1), 1) := by decide +kernel
theorem dX7_ticksByFormula_24 : decode cX7_ticksByFormula 24 = .ok (.if_icmp .ne 5, 3) := by decide +kernel
theorem dX7_ticksByFormula_27 : decode cX7_ticksByFormula 27 = .ok (.iconst (-1), 1) := by decide +kernel
theorem dX7_ticksByFormula_28 : decode cX7_ticksByFormula 28 = .ok (.ireturn, 1) := by decide +kernel
theorem dX7_ticksByFormula_29 : decode cX7_ticksByFormula 29 = .ok (.aload_n 0, 1) := by decide +kernel
theorem dX7_ticksByFormula_30 : decode cX7_ticksByFormula 30 = .ok (.getfield 21, 3) := by decide +kernel
theorem dX7_ticksByFormula_33 : decode cX7_ticksByFormula 33 = .ok (.getfield 153, 3) := by decide +kernel
theorem dX7_ticksByFormula_36 : decode cX7_ticksByFormula 36 = .ok (.iload_n 1, 1) := by decide +kernel
theorem dX7_ticksByFormula_37 : decode cX7_ticksByFormula 37 = .ok (.iaload, 1) := by decide +kernel
theorem dX7_ticksByFormula_38 : decode cX7_ticksByFormula 38 = .ok (.istore 5, 2) := by decide +kernel
theorem dX7_ticksByFormula_40 : decode cX7_ticksByFormula 40 = .ok (.aload_n 0, 1) := by decide +kernel
theorem dX7_ticksByFormula_41 : decode cX7_ticksByFormula 41 = .ok (.getfield 12, 3) := by decide +kernel
theorem dX7_ticksByFormula_44 : decode cX7_ticksByFormula 44 = .ok (.getfield 76, 3) := by decide +kernel
theorem dX7_ticksByFormula_47 : decode cX7_ticksByFormula 47 = .ok (.iload_n 3, 1) := by decide +kernel
theorem dX7_ticksByFormula_48 : decode cX7_ticksByFormula 48 = .ok (.iaload, 1) := by decide +kernel
theorem dX7_ticksByFormula_49 : decode cX7_ticksByFormula 49 = .ok (.iconst 1, 1) := by decide +kernel
theorem dX7_ticksByFormula_50 : decode cX7_ticksByFormula 50 = .ok (.isub, 1) := by decide +kernel
theorem dX7_ticksByFormula_51 : decode cX7_ticksByFormula 51 = .ok (.istore 6, 2) := by decide +kernel
theorem dX7_ticksByFormula_53 : decode cX7_ticksByFormula 53 = .ok (.aload_n 0, 1) := by decide +kernel
theorem dX7_ticksByFormula_54 : decode cX7_ticksByFormula 54 = .ok (.getfield 21, 3) := by decide +kernel
theorem dX7_ticksByFormula_57 : decode cX7_ticksByFormula 57 = .ok (.getfield 163, 3) := by decide +kernel
theorem dX7_ticksByFormula_60 : decode cX7_ticksByFormula 60 = .ok (.iload_n 1, 1) := by decide +kernel
theorem dX7_ticksByFormula_61 : decode cX7_ticksByFormula 61 = .ok (.iaload, 1) := by decide +kernel
theorem dX7_ticksByFormula_62 : decode cX7_ticksByFormula 62 = .ok (.ifCond .le 30, 3) := by decide +kernel
theorem dX7_ticksByFormula_65 : decode cX7_ticksByFormula 65 = .ok (.iload 4, 2) := by decide +kernel
theorem dX7_ticksByFormula_67 : decode cX7_ticksByFormula 67 = .ok (.iload 5, 2) := by decide +kernel
theorem dX7_ticksByFormula_69 : decode cX7_ticksByFormula 69 = .ok (.if_icmp .lt 11, 3) := by decide +kernel
theorem dX7_ticksByFormula_72 : decode cX7_ticksByFormula 72 = .ok (.iload 4, 2) := by decide +kernel
theorem dX7_ticksByFormula_74 : decode cX7_ticksByFormula 74 = .ok (.iload 5, 2) := by decide +kernel
theorem dX7_ticksByFormula_76 : decode cX7_ticksByFormula 76 = .ok (.isub, 1) := by decide +kernel
theorem dX7_ticksByFormula_77 : decode cX7_ticksByFormula 77 = .ok (.goto 14, 3) := by decide +kernel
theorem dX7_ticksByFormula_80 : decode cX7_ticksByFormula 80 = .ok (.iload 6, 2) := by decide +kernel
theorem dX7_ticksByFormula_82 : decode cX7_ticksByFormula 82 = .ok (.iload 5, 2) := by decide +kernel
theorem dX7_ticksByFormula_84 : decode cX7_ticksByFormula 84 = .ok (.isub, 1) := by decide +kernel
theorem dX7_ticksByFormula_85 : decode cX7_ticksByFormula 85 = .ok (.iload 6, 2) := by decide +kernel
theorem dX7_ticksByFormula_87 : decode cX7_ticksByFormula 87 = .ok (.iload 4, 2) := by decide +kernel
theorem dX7_ticksByFormula_89 : decode cX7_ticksByFormula 89 = .ok (.isub, 1) := by decide +kernel
theorem dX7_ticksByFormula_90 : decode cX7_ticksByFormula 90 = .ok (.iadd, 1) := by decide +kernel
theorem dX7_ticksByFormula_91 : decode cX7_ticksByFormula 91 = .ok (.ireturn, 1) := by decide +kernel
theorem dX7_ticksByFormula_92 : decode cX7_ticksByFormula 92 = .ok (.iload 4, 2) := by decide +kernel
theorem dX7_ticksByFormula_94 : decode cX7_ticksByFormula 94 = .ok (.iload 5, 2) := by decide +kernel
theorem dX7_ticksByFormula_96 : decode cX7_ticksByFormula 96 = .ok (.if_icmp .gt 11, 3) := by decide +kernel
theorem dX7_ticksByFormula_99 : decode cX7_ticksByFormula 99 = .ok (.iload 5, 2) := by decide +kernel
theorem dX7_ticksByFormula_101 : decode cX7_ticksByFormula 101 = .ok (.iload 4, 2) := by decide +kernel
theorem dX7_ticksByFormula_103 : decode cX7_ticksByFormula 103 = .ok (.isub, 1) := by decide +kernel
theorem dX7_ticksByFormula_104 : decode cX7_ticksByFormula 104 = .ok (.goto 8, 3) := by decide +kernel
theorem dX7_ticksByFormula_107 : decode cX7_ticksByFormula 107 = .ok (.iload 5, 2) := by decide +kernel
theorem dX7_ticksByFormula_109 : decode cX7_ticksByFormula 109 = .ok (.iload 4, 2) := by decide +kernel
theorem dX7_ticksByFormula_111 : decode cX7_ticksByFormula 111 = .ok (.iadd, 1) := by decide +kernel
theorem dX7_ticksByFormula_112 : decode cX7_ticksByFormula 112 = .ok (.ireturn, 1) := by decide +kernel
theorem dX7_ticksBySimulation_0 : decode cX7_ticksBySimulation 0 = .ok (.aload_n 0, 1) := by decide +kernel
theorem dX7_ticksBySimulation_1 : decode cX7_ticksBySimulation 1 = .ok (.getfield 21, 3) := by decide +kernel
theorem dX7_ticksBySimulation_4 : decode cX7_ticksBySimulation 4 = .ok (.getfield 103, 3) := by decide +kernel
theorem dX7_ticksBySimulation_7 : decode cX7_ticksBySimulation 7 = .ok (.iload_n 1, 1) := by decide +kernel
theorem dX7_ticksBySimulation_8 : decode cX7_ticksBySimulation 8 = .ok (.iaload, 1) := by decide +kernel
theorem dX7_ticksBySimulation_9 : decode cX7_ticksBySimulation 9 = .ok (.istore_n 3, 1) := by decide +kernel
theorem dX7_ticksBySimulation_10 : decode cX7_ticksBySimulation 10 = .ok (.aload_n 0, 1) := by decide +kernel
theorem dX7_ticksBySimulation_11 : decode cX7_ticksBySimulation 11 = .ok (.getfield 12, 3) := by decide +kernel
theorem dX7_ticksBySimulation_14 : decode cX7_ticksBySimulation 14 = .ok (.getfield 76, 3) := by decide +kernel
theorem dX7_ticksBySimulation_17 : decode cX7_ticksBySimulation 17 = .ok (.iload_n 3, 1) := by decide +kernel
theorem dX7_ticksBySimulation_18 : decode cX7_ticksBySimulation 18 = .ok (.iaload, 1) := by decide +kernel
theorem dX7_ticksBySimulation_19 : decode cX7_ticksBySimulation 19 = .ok (.iconst 1, 1) := by decide +kernel
theorem dX7_ticksBySimulation_20 : decode cX7_ticksBySimulation 20 = .ok (.isub, 1) := by decide +kernel
theorem dX7_ticksBySimulation_21 : decode cX7_ticksBySimulation 21 = .ok (.istore 4, 2) := by decide +kernel
theorem dX7_ticksBySimulation_23 : decode cX7_ticksBySimulation 23 = .ok (.aload_n 0, 1) := by decide +kernel
theorem dX7_ticksBySimulation_24 : decode cX7_ticksBySimulation 24 = .ok (.getfield 21, 3) := by decide +kernel
theorem dX7_ticksBySimulation_27 : decode cX7_ticksBySimulation 27 = .ok (.getfield 153, 3) := by decide +kernel
theorem dX7_ticksBySimulation_30 : decode cX7_ticksBySimulation 30 = .ok (.iload_n 1, 1) := by decide +kernel
theorem dX7_ticksBySimulation_31 : decode cX7_ticksBySimulation 31 = .ok (.iaload, 1) := by decide +kernel
theorem dX7_ticksBySimulation_32 : decode cX7_ticksBySimulation 32 = .ok (.istore 5, 2) := by decide +kernel
theorem dX7_ticksBySimulation_34 : decode cX7_ticksBySimulation 34 = .ok (.aload_n 0, 1) := by decide +kernel
theorem dX7_ticksBySimulation_35 : decode cX7_ticksBySimulation 35 = .ok (.getfield 21, 3) := by decide +kernel
theorem dX7_ticksBySimulation_38 : decode cX7_ticksBySimulation 38 = .ok (.getfield 163, 3) := by decide +kernel
theorem dX7_ticksBySimulation_41 : decode cX7_ticksBySimulation 41 = .ok (.iload_n 1, 1) := by decide +kernel
theorem dX7_ticksBySimulation_42 : decode cX7_ticksBySimulation 42 = .ok (.iaload, 1) := by decide +kernel
theorem dX7_ticksBySimulation_43 : decode cX7_ticksBySimulation 43 = .ok (.istore 6, 2) := by decide +kernel
theorem dX7_ticksBySimulation_45 : decode cX7_ticksBySimulation 45 = .ok (.iconst 0, 1) := by decide +kernel
theorem dX7_ticksBySimulation_46 : decode cX7_ticksBySimulation 46 = .ok (.istore 7, 2) := by decide +kernel
theorem dX7_ticksBySimulation_48 : decode cX7_ticksBySimulation 48 = .ok (.iload 7, 2) := by decide +kernel
theorem dX7_ticksBySimulation_50 : decode cX7_ticksBySimulation 50 = .ok (.bipush 10, 2) := by decide +kernel
theorem dX7_ticksBySimulation_52 : decode cX7_ticksBySimulation 52 = .ok (.if_icmp .gt 46, 3) := by decide +kernel
theorem dX7_ticksBySimulation_55 : decode cX7_ticksBySimulation 55 = .ok (.aload_n 0, 1) := by decide +kernel
theorem dX7_ticksBySimulation_56 : decode cX7_ticksBySimulation 56 = .ok (.getfield 12, 3) := by decide +kernel
theorem dX7_ticksBySimulation_59 : decode cX7_ticksBySimulation 59 = .ok (.getfield 149, 3) := by decide +kernel
theorem dX7_ticksBySimulation_62 : decode cX7_ticksBySimulation 62 = .ok (.iload_n 3, 1) := by decide +kernel
theorem dX7_ticksBySimulation_63 : decode cX7_ticksBySimulation 63 = .ok (.aaload, 1) := by decide +kernel
theorem dX7_ticksBySimulation_64 : decode cX7_ticksBySimulation 64 = .ok (.iload 5, 2) := by decide +kernel
theorem dX7_ticksBySimulation_66 : decode cX7_ticksBySimulation 66 = .ok (.iaload, 1) := by decide +kernel
theorem dX7_ticksBySimulation_67 : decode cX7_ticksBySimulation 67 = .ok (.iload_n 2, 1) := by decide +kernel
theorem dX7_ticksBySimulation_68 : decode cX7_ticksBySimulation 68 = .ok (.if_icmp .ne 6, 3) := by decide +kernel
theorem dX7_ticksBySimulation_71 : decode cX7_ticksBySimulation 71 = .ok (.iload 7, 2) := by decide +kernel
theorem dX7_ticksBySimulation_73 : decode cX7_ticksBySimulation 73 = .ok (.ireturn, 1) := by decide +kernel
theorem dX7_ticksBySimulation_74 : decode cX7_ticksBySimulation 74 = .ok (.iload 5, 2) := by decide +kernel
theorem dX7_ticksBySimulation_76 : decode cX7_ticksBySimulation 76 = .ok (.iload 6, 2) := by decide +kernel
theorem dX7_ticksBySimulation_78 : decode cX7_ticksBySimulation 78 = .ok (.iadd, 1) := by decide +kernel
theorem dX7_ticksBySimulation_79 : decode cX7_ticksBySimulation 79 = .ok (.istore 5, 2) := by decide +kernel
theorem dX7_ticksBySimulation_81 : decode cX7_ticksBySimulation 81 = .ok (.iload 5, 2) := by decide +kernel
theorem dX7_ticksBySimulation_83 : decode cX7_ticksBySimulation 83 = .ok (.iload 6, 2) := by decide +kernel
theorem dX7_ticksBySimulation_85 : decode cX7_ticksBySimulation 85 = .ok (.iload 4, 2) := by decide +kernel
theorem dX7_ticksBySimulation_87 : decode cX7_ticksBySimulation 87 = .ok (.invokestatic 166, 3) := by decide +kernel
theorem dX7_ticksBySimulation_90 : decode cX7_ticksBySimulation 90 = .ok (.istore 6, 2) := by decide +kernel
theorem dX7_ticksBySimulation_92 : decode cX7_ticksBySimulation 92 = .ok (.iinc 7 1, 3) := by decide +kernel
theorem dX7_ticksBySimulation_95 : decode cX7_ticksBySimulation 95 = .ok (.goto (-47), 3) := by decide +kernel
theorem dX7_ticksBySimulation_98 : decode cX7_ticksBySimulation 98 = .ok (.iconst (-1), 1) := by decide +kernel
theorem dX7_ticksBySimulation_99 : decode cX7_ticksBySimulation 99 = .ok (.ireturn, 1) := by decide +kernel
theorem dX7_attempt_0 : decode cX7_attempt 0 = .ok (.aload_n 2, 1) := by decide +kernel
theorem dX7_attempt_1 : decode cX7_attempt 1 = .ok (.arraylength, 1) := by decide +kernel
theorem dX7_attempt_2 : decode cX7_attempt 2 = .ok (.iconst 3, 1) := by decide +kernel
theorem dX7_attempt_3 : decode cX7_attempt 3 = .ok (.if_icmp .ge 5, 3) := by decide +kernel
theorem dX7_attempt_6 : decode cX7_attempt 6 = .ok (.iconst 0, 1) := by decide +kernel
theorem dX7_attempt_7 : decode cX7_attempt 7 = .ok (.ireturn, 1) := by decide +kernel
theorem dX7_attempt_8 : decode cX7_attempt 8 = .ok (.aload_n 0, 1) := by decide +kernel
theorem dX7_attempt_9 : decode cX7_attempt 9 = .ok (.iload_n 1, 1) := by decide +kernel
theorem dX7_attempt_10 : decode cX7_attempt 10 = .ok (.aload_n 2, 1) := by decide +kernel
theorem dX7_attempt_11 : decode cX7_attempt 11 = .ok (.iconst 0, 1) := by decide +kernel
theorem dX7_attempt_12 : decode cX7_attempt 12 = .ok (.iaload, 1) := by decide +kernel
theorem dX7_attempt_13 : decode cX7_attempt 13 = .ok (.aload_n 2, 1) := by decide +kernel
theorem dX7_attempt_14 : decode cX7_attempt 14 = .ok (.iconst 1, 1) := by decide +kernel
theorem dX7_attempt_15 : decode cX7_attempt 15 = .ok (.iaload, 1) := by decide +kernel
theorem dX7_attempt_16 : decode cX7_attempt 16 = .ok (.aload_n 2, 1) := by decide +kernel
theorem dX7_attempt_17 : decode cX7_attempt 17 = .ok (.iconst 2, 1) := by decide +kernel
theorem dX7_attempt_18 : decode cX7_attempt 18 = .ok (.iaload, 1) := by decide +kernel
theorem dX7_attempt_19 : decode cX7_attempt 19 = .ok (.invokevirtual 170, 3) := by decide +kernel
theorem dX7_attempt_22 : decode cX7_attempt 22 = .ok (.ifCond .ne 7, 3) := by decide +kernel
theorem dX7_attempt_25 : decode cX7_attempt 25 = .ok (.iconst 1, 1) := by decide +kernel
theorem dX7_attempt_26 : decode cX7_attempt 26 = .ok (.goto 4, 3) := by decide +kernel
theorem dX7_attempt_29 : decode cX7_attempt 29 = .ok (.iconst 0, 1) := by decide +kernel
theorem dX7_attempt_30 : decode cX7_attempt 30 = .ok (.istore_n 3, 1) := by decide +kernel
theorem dX7_attempt_31 : decode cX7_attempt 31 = .ok (.iload_n 3, 1) := by decide +kernel
theorem dX7_attempt_32 : decode cX7_attempt 32 = .ok (.ifCond .eq 17, 3) := by decide +kernel
theorem dX7_attempt_35 : decode cX7_attempt 35 = .ok (.aload_n 0, 1) := by decide +kernel
theorem dX7_attempt_36 : decode cX7_attempt 36 = .ok (.iload_n 1, 1) := by decide +kernel
theorem dX7_attempt_37 : decode cX7_attempt 37 = .ok (.aload_n 2, 1) := by decide +kernel
theorem dX7_attempt_38 : decode cX7_attempt 38 = .ok (.iconst 0, 1) := by decide +kernel
theorem dX7_attempt_39 : decode cX7_attempt 39 = .ok (.iaload, 1) := by decide +kernel
theorem dX7_attempt_40 : decode cX7_attempt 40 = .ok (.aload_n 2, 1) := by decide +kernel
theorem dX7_attempt_41 : decode cX7_attempt 41 = .ok (.iconst 1, 1) := by decide +kernel
theorem dX7_attempt_42 : decode cX7_attempt 42 = .ok (.iaload, 1) := by decide +kernel
theorem dX7_attempt_43 : decode cX7_attempt 43 = .ok (.aload_n 2, 1) := by decide +kernel
theorem dX7_attempt_44 : decode cX7_attempt 44 = .ok (.iconst 2, 1) := by decide +kernel
theorem dX7_attempt_45 : decode cX7_attempt 45 = .ok (.iaload, 1) := by decide +kernel
theorem dX7_attempt_46 : decode cX7_attempt 46 = .ok (.invokevirtual 174, 3) := by decide +kernel
theorem dX7_attempt_49 : decode cX7_attempt 49 = .ok (.iload_n 3, 1) := by decide +kernel
theorem dX7_attempt_50 : decode cX7_attempt 50 = .ok (.ireturn, 1) := by decide +kernel
theorem dX7_faultOfCommand_0 : decode cX7_faultOfCommand 0 = .ok (.iload_n 1, 1) := by decide +kernel
theorem dX7_faultOfCommand_1 : decode cX7_faultOfCommand 1 = .ok (.tableswitch 122 0 9 #[55, 61, 68, 75, 81, 87, 96, 103, 109, 115], 55) := by decide +kernel
theorem dX7_faultOfCommand_56 : decode cX7_faultOfCommand 56 = .ok (.aload_n 0, 1) := by decide +kernel
theorem dX7_faultOfCommand_57 : decode cX7_faultOfCommand 57 = .ok (.iload_n 2, 1) := by decide +kernel
theorem dX7_faultOfCommand_58 : decode cX7_faultOfCommand 58 = .ok (.invokevirtual 178, 3) := by decide +kernel
theorem dX7_faultOfCommand_61 : decode cX7_faultOfCommand 61 = .ok (.ireturn, 1) := by decide +kernel
theorem dX7_faultOfCommand_62 : decode cX7_faultOfCommand 62 = .ok (.aload_n 0, 1) := by decide +kernel
theorem dX7_faultOfCommand_63 : decode cX7_faultOfCommand 63 = .ok (.iload_n 2, 1) := by decide +kernel
theorem dX7_faultOfCommand_64 : decode cX7_faultOfCommand 64 = .ok (.iload_n 3, 1) := by decide +kernel
theorem dX7_faultOfCommand_65 : decode cX7_faultOfCommand 65 = .ok (.invokevirtual 181, 3) := by decide +kernel
theorem dX7_faultOfCommand_68 : decode cX7_faultOfCommand 68 = .ok (.ireturn, 1) := by decide +kernel
theorem dX7_faultOfCommand_69 : decode cX7_faultOfCommand 69 = .ok (.aload_n 0, 1) := by decide +kernel
theorem dX7_faultOfCommand_70 : decode cX7_faultOfCommand 70 = .ok (.iload_n 2, 1) := by decide +kernel
theorem dX7_faultOfCommand_71 : decode cX7_faultOfCommand 71 = .ok (.iload_n 3, 1) := by decide +kernel
theorem dX7_faultOfCommand_72 : decode cX7_faultOfCommand 72 = .ok (.invokevirtual 184, 3) := by decide +kernel
theorem dX7_faultOfCommand_75 : decode cX7_faultOfCommand 75 = .ok (.ireturn, 1) := by decide +kernel
theorem dX7_faultOfCommand_76 : decode cX7_faultOfCommand 76 = .ok (.aload_n 0, 1) := by decide +kernel
theorem dX7_faultOfCommand_77 : decode cX7_faultOfCommand 77 = .ok (.iload_n 2, 1) := by decide +kernel
theorem dX7_faultOfCommand_78 : decode cX7_faultOfCommand 78 = .ok (.invokevirtual 187, 3) := by decide +kernel
theorem dX7_faultOfCommand_81 : decode cX7_faultOfCommand 81 = .ok (.ireturn, 1) := by decide +kernel
theorem dX7_faultOfCommand_82 : decode cX7_faultOfCommand 82 = .ok (.aload_n 0, 1) := by decide +kernel
theorem dX7_faultOfCommand_83 : decode cX7_faultOfCommand 83 = .ok (.iload_n 2, 1) := by decide +kernel
theorem dX7_faultOfCommand_84 : decode cX7_faultOfCommand 84 = .ok (.invokevirtual 190, 3) := by decide +kernel
theorem dX7_faultOfCommand_87 : decode cX7_faultOfCommand 87 = .ok (.ireturn, 1) := by decide +kernel
theorem dX7_faultOfCommand_88 : decode cX7_faultOfCommand 88 = .ok (.aload_n 0, 1) := by decide +kernel
theorem dX7_faultOfCommand_89 : decode cX7_faultOfCommand 89 = .ok (.iload_n 2, 1) := by decide +kernel
theorem dX7_faultOfCommand_90 : decode cX7_faultOfCommand 90 = .ok (.iload_n 3, 1) := by decide +kernel
theorem dX7_faultOfCommand_91 : decode cX7_faultOfCommand 91 = .ok (.iload 4, 2) := by decide +kernel
theorem dX7_faultOfCommand_93 : decode cX7_faultOfCommand 93 = .ok (.invokevirtual 193, 3) := by decide +kernel
theorem dX7_faultOfCommand_96 : decode cX7_faultOfCommand 96 = .ok (.ireturn, 1) := by decide +kernel
theorem dX7_faultOfCommand_97 : decode cX7_faultOfCommand 97 = .ok (.aload_n 0, 1) := by decide +kernel
theorem dX7_faultOfCommand_98 : decode cX7_faultOfCommand 98 = .ok (.iload_n 2, 1) := by decide +kernel
theorem dX7_faultOfCommand_99 : decode cX7_faultOfCommand 99 = .ok (.iload_n 3, 1) := by decide +kernel
theorem dX7_faultOfCommand_100 : decode cX7_faultOfCommand 100 = .ok (.invokevirtual 196, 3) := by decide +kernel
theorem dX7_faultOfCommand_103 : decode cX7_faultOfCommand 103 = .ok (.ireturn, 1) := by decide +kernel
theorem dX7_faultOfCommand_104 : decode cX7_faultOfCommand 104 = .ok (.aload_n 0, 1) := by decide +kernel
theorem dX7_faultOfCommand_105 : decode cX7_faultOfCommand 105 = .ok (.iload_n 2, 1) := by decide +kernel
theorem dX7_faultOfCommand_106 : decode cX7_faultOfCommand 106 = .ok (.invokevirtual 199, 3) := by decide +kernel
theorem dX7_faultOfCommand_109 : decode cX7_faultOfCommand 109 = .ok (.ireturn, 1) := by decide +kernel
theorem dX7_faultOfCommand_110 : decode cX7_faultOfCommand 110 = .ok (.aload_n 0, 1) := by decide +kernel
theorem dX7_faultOfCommand_111 : decode cX7_faultOfCommand 111 = .ok (.iload_n 2, 1) := by decide +kernel
theorem dX7_faultOfCommand_112 : decode cX7_faultOfCommand 112 = .ok (.invokevirtual 202, 3) := by decide +kernel
theorem dX7_faultOfCommand_115 : decode cX7_faultOfCommand 115 = .ok (.ireturn, 1) := by decide +kernel
theorem dX7_faultOfCommand_116 : decode cX7_faultOfCommand 116 = .ok (.aload_n 0, 1) := by decide +kernel
theorem dX7_faultOfCommand_117 : decode cX7_faultOfCommand 117 = .ok (.iload_n 2, 1) := by decide +kernel
theorem dX7_faultOfCommand_118 : decode cX7_faultOfCommand 118 = .ok (.iload_n 3, 1) := by decide +kernel
theorem dX7_faultOfCommand_119 : decode cX7_faultOfCommand 119 = .ok (.invokevirtual 205, 3) := by decide +kernel
theorem dX7_faultOfCommand_122 : decode cX7_faultOfCommand 122 = .ok (.ireturn, 1) := by decide +kernel
theorem dX7_faultOfCommand_123 : decode cX7_faultOfCommand 123 = .ok (.iconst 0, 1) := by decide +kernel
theorem dX7_faultOfCommand_124 : decode cX7_faultOfCommand 124 = .ok (.ireturn, 1) := by decide +kernel
theorem dX7_applyCommand_0 : decode cX7_applyCommand 0 = .ok (.iload_n 1, 1) := by decide +kernel
theorem dX7_applyCommand_1 : decode cX7_applyCommand 1 = .ok (.tableswitch 173 0 9 #[55, 67, 80, 93, 105, 117, 132, 142, 151, 163], 55) := by decide +kernel
theorem dX7_applyCommand_56 : decode cX7_applyCommand 56 = .ok (.aload_n 0, 1) := by decide +kernel
theorem dX7_applyCommand_57 : decode cX7_applyCommand 57 = .ok (.getfield 12, 3) := by decide +kernel
theorem dX7_applyCommand_60 : decode cX7_applyCommand 60 = .ok (.iload_n 2, 1) := by decide +kernel
theorem dX7_applyCommand_61 : decode cX7_applyCommand 61 = .ok (.invokevirtual 208, 3) := by decide +kernel
theorem dX7_applyCommand_64 : decode cX7_applyCommand 64 = .ok (.pop, 1) := by decide +kernel
theorem dX7_applyCommand_65 : decode cX7_applyCommand 65 = .ok (.goto 114, 3) := by decide +kernel
theorem dX7_applyCommand_68 : decode cX7_applyCommand 68 = .ok (.aload_n 0, 1) := by decide +kernel
theorem dX7_applyCommand_69 : decode cX7_applyCommand 69 = .ok (.getfield 12, 3) := by decide +kernel
theorem dX7_applyCommand_72 : decode cX7_applyCommand 72 = .ok (.iload_n 2, 1) := by decide +kernel
theorem dX7_applyCommand_73 : decode cX7_applyCommand 73 = .ok (.iload_n 3, 1) := by decide +kernel
theorem dX7_applyCommand_74 : decode cX7_applyCommand 74 = .ok (.invokevirtual 211, 3) := by decide +kernel
theorem dX7_applyCommand_77 : decode cX7_applyCommand 77 = .ok (.pop, 1) := by decide +kernel
theorem dX7_applyCommand_78 : decode cX7_applyCommand 78 = .ok (.goto 101, 3) := by decide +kernel
theorem dX7_applyCommand_81 : decode cX7_applyCommand 81 = .ok (.aload_n 0, 1) := by decide +kernel
theorem dX7_applyCommand_82 : decode cX7_applyCommand 82 = .ok (.getfield 12, 3) := by decide +kernel
theorem dX7_applyCommand_85 : decode cX7_applyCommand 85 = .ok (.iload_n 2, 1) := by decide +kernel
theorem dX7_applyCommand_86 : decode cX7_applyCommand 86 = .ok (.iload_n 3, 1) := by decide +kernel
theorem dX7_applyCommand_87 : decode cX7_applyCommand 87 = .ok (.invokevirtual 214, 3) := by decide +kernel
theorem dX7_applyCommand_90 : decode cX7_applyCommand 90 = .ok (.pop, 1) := by decide +kernel
theorem dX7_applyCommand_91 : decode cX7_applyCommand 91 = .ok (.goto 88, 3) := by decide +kernel
theorem dX7_applyCommand_94 : decode cX7_applyCommand 94 = .ok (.aload_n 0, 1) := by decide +kernel
theorem dX7_applyCommand_95 : decode cX7_applyCommand 95 = .ok (.getfield 21, 3) := by decide +kernel
theorem dX7_applyCommand_98 : decode cX7_applyCommand 98 = .ok (.iload_n 2, 1) := by decide +kernel
theorem dX7_applyCommand_99 : decode cX7_applyCommand 99 = .ok (.invokevirtual 217, 3) := by decide +kernel
theorem dX7_applyCommand_102 : decode cX7_applyCommand 102 = .ok (.pop, 1) := by decide +kernel
theorem dX7_applyCommand_103 : decode cX7_applyCommand 103 = .ok (.goto 76, 3) := by decide +kernel
theorem dX7_applyCommand_106 : decode cX7_applyCommand 106 = .ok (.aload_n 0, 1) := by decide +kernel
theorem dX7_applyCommand_107 : decode cX7_applyCommand 107 = .ok (.getfield 28, 3) := by decide +kernel
theorem dX7_applyCommand_110 : decode cX7_applyCommand 110 = .ok (.iload_n 2, 1) := by decide +kernel
theorem dX7_applyCommand_111 : decode cX7_applyCommand 111 = .ok (.invokevirtual 220, 3) := by decide +kernel
theorem dX7_applyCommand_114 : decode cX7_applyCommand 114 = .ok (.pop, 1) := by decide +kernel
theorem dX7_applyCommand_115 : decode cX7_applyCommand 115 = .ok (.goto 64, 3) := by decide +kernel
theorem dX7_applyCommand_118 : decode cX7_applyCommand 118 = .ok (.aload_n 0, 1) := by decide +kernel
theorem dX7_applyCommand_119 : decode cX7_applyCommand 119 = .ok (.getfield 28, 3) := by decide +kernel
theorem dX7_applyCommand_122 : decode cX7_applyCommand 122 = .ok (.iload_n 2, 1) := by decide +kernel
theorem dX7_applyCommand_123 : decode cX7_applyCommand 123 = .ok (.iload_n 3, 1) := by decide +kernel
theorem dX7_applyCommand_124 : decode cX7_applyCommand 124 = .ok (.iload 4, 2) := by decide +kernel
theorem dX7_applyCommand_126 : decode cX7_applyCommand 126 = .ok (.invokevirtual 223, 3) := by decide +kernel
theorem dX7_applyCommand_129 : decode cX7_applyCommand 129 = .ok (.pop, 1) := by decide +kernel
theorem dX7_applyCommand_130 : decode cX7_applyCommand 130 = .ok (.goto 49, 3) := by decide +kernel
theorem dX7_applyCommand_133 : decode cX7_applyCommand 133 = .ok (.aload_n 0, 1) := by decide +kernel
theorem dX7_applyCommand_134 : decode cX7_applyCommand 134 = .ok (.iload_n 2, 1) := by decide +kernel
theorem dX7_applyCommand_135 : decode cX7_applyCommand 135 = .ok (.iload_n 3, 1) := by decide +kernel
theorem dX7_applyCommand_136 : decode cX7_applyCommand 136 = .ok (.invokevirtual 226, 3) := by decide +kernel
theorem dX7_applyCommand_139 : decode cX7_applyCommand 139 = .ok (.pop, 1) := by decide +kernel
theorem dX7_applyCommand_140 : decode cX7_applyCommand 140 = .ok (.goto 39, 3) := by decide +kernel
theorem dX7_applyCommand_143 : decode cX7_applyCommand 143 = .ok (.aload_n 0, 1) := by decide +kernel
theorem dX7_applyCommand_144 : decode cX7_applyCommand 144 = .ok (.iload_n 2, 1) := by decide +kernel
theorem dX7_applyCommand_145 : decode cX7_applyCommand 145 = .ok (.invokevirtual 229, 3) := by decide +kernel
theorem dX7_applyCommand_148 : decode cX7_applyCommand 148 = .ok (.pop, 1) := by decide +kernel
theorem dX7_applyCommand_149 : decode cX7_applyCommand 149 = .ok (.goto 30, 3) := by decide +kernel
theorem dX7_applyCommand_152 : decode cX7_applyCommand 152 = .ok (.aload_n 0, 1) := by decide +kernel
theorem dX7_applyCommand_153 : decode cX7_applyCommand 153 = .ok (.getfield 35, 3) := by decide +kernel
theorem dX7_applyCommand_156 : decode cX7_applyCommand 156 = .ok (.iload_n 2, 1) := by decide +kernel
theorem dX7_applyCommand_157 : decode cX7_applyCommand 157 = .ok (.invokevirtual 232, 3) := by decide +kernel
theorem dX7_applyCommand_160 : decode cX7_applyCommand 160 = .ok (.pop, 1) := by decide +kernel
theorem dX7_applyCommand_161 : decode cX7_applyCommand 161 = .ok (.goto 18, 3) := by decide +kernel
theorem dX7_applyCommand_164 : decode cX7_applyCommand 164 = .ok (.aload_n 0, 1) := by decide +kernel
theorem dX7_applyCommand_165 : decode cX7_applyCommand 165 = .ok (.iload_n 2, 1) := by decide +kernel
theorem dX7_applyCommand_166 : decode cX7_applyCommand 166 = .ok (.iload_n 3, 1) := by decide +kernel
theorem dX7_applyCommand_167 : decode cX7_applyCommand 167 = .ok (.invokevirtual 235, 3) := by decide +kernel
theorem dX7_applyCommand_170 : decode cX7_applyCommand 170 = .ok (.pop, 1) := by decide +kernel
theorem dX7_applyCommand_171 : decode cX7_applyCommand 171 = .ok (.goto 8, 3) := by decide +kernel
theorem dX7_applyCommand_174 : decode cX7_applyCommand 174 = .ok (.aload_n 0, 1) := by decide +kernel
theorem dX7_applyCommand_175 : decode cX7_applyCommand 175 = .ok (.invokevirtual 238, 3) := by decide +kernel
theorem dX7_applyCommand_178 : decode cX7_applyCommand 178 = .ok (.pop, 1) := by decide +kernel
theorem dX7_applyCommand_179 : decode cX7_applyCommand 179 = .ok (.return_, 1) := by decide +kernel
theorem dX8_init_0 : decode cX8_init 0 = .ok (.aload_n 0, 1) := by decide +kernel
theorem dX8_init_1 : decode cX8_init 1 = .ok (.invokespecial 3, 3) := by decide +kernel
theorem dX8_init_4 : decode cX8_init 4 = .ok (.aload_n 0, 1) := by decide +kernel
theorem dX8_init_5 : decode cX8_init 5 = .ok (.new 9, 3) := by decide +kernel
theorem dX8_init_8 : decode cX8_init 8 = .ok (.dup, 1) := by decide +kernel
theorem dX8_init_9 : decode cX8_init 9 = .ok (.invokespecial 11, 3) := by decide +kernel
theorem dX8_init_12 : decode cX8_init 12 = .ok (.putfield 12, 3) := by decide +kernel
theorem dX8_init_15 : decode cX8_init 15 = .ok (.aload_n 0, 1) := by decide +kernel
theorem dX8_init_16 : decode cX8_init 16 = .ok (.new 9, 3) := by decide +kernel
theorem dX8_init_19 : decode cX8_init 19 = .ok (.dup, 1) := by decide +kernel
theorem dX8_init_20 : decode cX8_init 20 = .ok (.invokespecial 11, 3) := by decide +kernel
theorem dX8_init_23 : decode cX8_init 23 = .ok (.putfield 16, 3) := by decide +kernel
theorem dX8_init_26 : decode cX8_init 26 = .ok (.aload_n 0, 1) := by decide +kernel
theorem dX8_init_27 : decode cX8_init 27 = .ok (.new 9, 3) := by decide +kernel
theorem dX8_init_30 : decode cX8_init 30 = .ok (.dup, 1) := by decide +kernel
theorem dX8_init_31 : decode cX8_init 31 = .ok (.invokespecial 11, 3) := by decide +kernel
theorem dX8_init_34 : decode cX8_init 34 = .ok (.putfield 19, 3) := by decide +kernel
theorem dX8_init_37 : decode cX8_init 37 = .ok (.aload_n 0, 1) := by decide +kernel
theorem dX8_init_38 : decode cX8_init 38 = .ok (.new 22, 3) := by decide +kernel
theorem dX8_init_41 : decode cX8_init 41 = .ok (.dup, 1) := by decide +kernel
theorem dX8_init_42 : decode cX8_init 42 = .ok (.invokespecial 24, 3) := by decide +kernel
theorem dX8_init_45 : decode cX8_init 45 = .ok (.putfield 25, 3) := by decide +kernel
theorem dX8_init_48 : decode cX8_init 48 = .ok (.aload_n 0, 1) := by decide +kernel
theorem dX8_init_49 : decode cX8_init 49 = .ok (.new 29, 3) := by decide +kernel
theorem dX8_init_52 : decode cX8_init 52 = .ok (.dup, 1) := by decide +kernel
theorem dX8_init_53 : decode cX8_init 53 = .ok (.invokespecial 31, 3) := by decide +kernel
theorem dX8_init_56 : decode cX8_init 56 = .ok (.putfield 32, 3) := by decide +kernel
theorem dX8_init_59 : decode cX8_init 59 = .ok (.aload_n 0, 1) := by decide +kernel
theorem dX8_init_60 : decode cX8_init 60 = .ok (.new 36, 3) := by decide +kernel
theorem dX8_init_63 : decode cX8_init 63 = .ok (.dup, 1) := by decide +kernel
theorem dX8_init_64 : decode cX8_init 64 = .ok (.invokespecial 38, 3) := by decide +kernel
theorem dX8_init_67 : decode cX8_init 67 = .ok (.putfield 39, 3) := by decide +kernel
theorem dX8_init_70 : decode cX8_init 70 = .ok (.aload_n 0, 1) := by decide +kernel
theorem dX8_init_71 : decode cX8_init 71 = .ok (.new 43, 3) := by decide +kernel
theorem dX8_init_74 : decode cX8_init 74 = .ok (.dup, 1) := by decide +kernel
theorem dX8_init_75 : decode cX8_init 75 = .ok (.invokespecial 45, 3) := by decide +kernel
theorem dX8_init_78 : decode cX8_init 78 = .ok (.putfield 46, 3) := by decide +kernel
theorem dX8_init_81 : decode cX8_init 81 = .ok (.aload_n 0, 1) := by decide +kernel
theorem dX8_init_82 : decode cX8_init 82 = .ok (.iconst 0, 1) := by decide +kernel
theorem dX8_init_83 : decode cX8_init 83 = .ok (.putfield 50, 3) := by decide +kernel
theorem dX8_init_86 : decode cX8_init 86 = .ok (.aload_n 0, 1) := by decide +kernel
theorem dX8_init_87 : decode cX8_init 87 = .ok (.iconst (-1), 1) := by decide +kernel
theorem dX8_init_88 : decode cX8_init 88 = .ok (.putfield 54, 3) := by decide +kernel
theorem dX8_init_91 : decode cX8_init 91 = .ok (.aload_n 0, 1) := by decide +kernel
theorem dX8_init_92 : decode cX8_init 92 = .ok (.iconst (-1), 1) := by decide +kernel
theorem dX8_init_93 : decode cX8_init 93 = .ok (.putfield 58, 3) := by decide +kernel
theorem dX8_init_96 : decode cX8_init 96 = .ok (.return_, 1) := by decide +kernel
theorem dX8_addStop_0 : decode cX8_addStop 0 = .ok (.aload_n 0, 1) := by decide +kernel
theorem dX8_addStop_1 : decode cX8_addStop 1 = .ok (.getfield 12, 3) := by decide +kernel
theorem dX8_addStop_4 : decode cX8_addStop 4 = .ok (.iload_n 1, 1) := by decide +kernel
theorem dX8_addStop_5 : decode cX8_addStop 5 = .ok (.invokevirtual 61, 3) := by decide +kernel
theorem dX8_addStop_8 : decode cX8_addStop 8 = .ok (.invokestatic 65, 3) := by decide +kernel
theorem dX8_addStop_11 : decode cX8_addStop 11 = .ok (.aload_n 0, 1) := by decide +kernel
theorem dX8_addStop_12 : decode cX8_addStop 12 = .ok (.getfield 25, 3) := by decide +kernel
theorem dX8_addStop_15 : decode cX8_addStop 15 = .ok (.aload_n 0, 1) := by decide +kernel
theorem dX8_addStop_16 : decode cX8_addStop 16 = .ok (.getfield 12, 3) := by decide +kernel
theorem dX8_addStop_19 : decode cX8_addStop 19 = .ok (.invokevirtual 69, 3) := by decide +kernel
theorem dX8_addStop_22 : decode cX8_addStop 22 = .ok (.aload_n 0, 1) := by decide +kernel
theorem dX8_addStop_23 : decode cX8_addStop 23 = .ok (.getfield 12, 3) := by decide +kernel
theorem dX8_addStop_26 : decode cX8_addStop 26 = .ok (.getfield 73, 3) := by decide +kernel
theorem dX8_addStop_29 : decode cX8_addStop 29 = .ok (.iload_n 1, 1) := by decide +kernel
theorem dX8_addStop_30 : decode cX8_addStop 30 = .ok (.invokevirtual 77, 3) := by decide +kernel
theorem dX8_addStop_33 : decode cX8_addStop 33 = .ok (.ireturn, 1) := by decide +kernel
theorem dX8_addLine_0 : decode cX8_addLine 0 = .ok (.aload_n 0, 1) := by decide +kernel
theorem dX8_addLine_1 : decode cX8_addLine 1 = .ok (.getfield 12, 3) := by decide +kernel
theorem dX8_addLine_4 : decode cX8_addLine 4 = .ok (.iload_n 1, 1) := by decide +kernel
theorem dX8_addLine_5 : decode cX8_addLine 5 = .ok (.iload_n 2, 1) := by decide +kernel
theorem dX8_addLine_6 : decode cX8_addLine 6 = .ok (.invokevirtual 82, 3) := by decide +kernel
theorem dX8_addLine_9 : decode cX8_addLine 9 = .ok (.invokestatic 65, 3) := by decide +kernel
theorem dX8_addLine_12 : decode cX8_addLine 12 = .ok (.aload_n 0, 1) := by decide +kernel
theorem dX8_addLine_13 : decode cX8_addLine 13 = .ok (.getfield 25, 3) := by decide +kernel
theorem dX8_addLine_16 : decode cX8_addLine 16 = .ok (.aload_n 0, 1) := by decide +kernel
theorem dX8_addLine_17 : decode cX8_addLine 17 = .ok (.getfield 12, 3) := by decide +kernel
theorem dX8_addLine_20 : decode cX8_addLine 20 = .ok (.invokevirtual 69, 3) := by decide +kernel
theorem dX8_addLine_23 : decode cX8_addLine 23 = .ok (.aload_n 0, 1) := by decide +kernel
theorem dX8_addLine_24 : decode cX8_addLine 24 = .ok (.getfield 12, 3) := by decide +kernel
theorem dX8_addLine_27 : decode cX8_addLine 27 = .ok (.getfield 73, 3) := by decide +kernel
theorem dX8_addLine_30 : decode cX8_addLine 30 = .ok (.iload_n 1, 1) := by decide +kernel
theorem dX8_addLine_31 : decode cX8_addLine 31 = .ok (.iload_n 2, 1) := by decide +kernel
theorem dX8_addLine_32 : decode cX8_addLine 32 = .ok (.invokevirtual 86, 3) := by decide +kernel
theorem dX8_addLine_35 : decode cX8_addLine 35 = .ok (.ireturn, 1) := by decide +kernel
theorem dX8_extendLine_0 : decode cX8_extendLine 0 = .ok (.aload_n 0, 1) := by decide +kernel
theorem dX8_extendLine_1 : decode cX8_extendLine 1 = .ok (.getfield 12, 3) := by decide +kernel
theorem dX8_extendLine_4 : decode cX8_extendLine 4 = .ok (.iload_n 1, 1) := by decide +kernel
theorem dX8_extendLine_5 : decode cX8_extendLine 5 = .ok (.iload_n 2, 1) := by decide +kernel
theorem dX8_extendLine_6 : decode cX8_extendLine 6 = .ok (.invokevirtual 89, 3) := by decide +kernel
theorem dX8_extendLine_9 : decode cX8_extendLine 9 = .ok (.invokestatic 65, 3) := by decide +kernel
theorem dX8_extendLine_12 : decode cX8_extendLine 12 = .ok (.aload_n 0, 1) := by decide +kernel
theorem dX8_extendLine_13 : decode cX8_extendLine 13 = .ok (.getfield 25, 3) := by decide +kernel
theorem dX8_extendLine_16 : decode cX8_extendLine 16 = .ok (.aload_n 0, 1) := by decide +kernel
theorem dX8_extendLine_17 : decode cX8_extendLine 17 = .ok (.getfield 12, 3) := by decide +kernel
theorem dX8_extendLine_20 : decode cX8_extendLine 20 = .ok (.invokevirtual 69, 3) := by decide +kernel
theorem dX8_extendLine_23 : decode cX8_extendLine 23 = .ok (.aload_n 0, 1) := by decide +kernel
theorem dX8_extendLine_24 : decode cX8_extendLine 24 = .ok (.getfield 12, 3) := by decide +kernel
theorem dX8_extendLine_27 : decode cX8_extendLine 27 = .ok (.getfield 73, 3) := by decide +kernel
theorem dX8_extendLine_30 : decode cX8_extendLine 30 = .ok (.iload_n 1, 1) := by decide +kernel
theorem dX8_extendLine_31 : decode cX8_extendLine 31 = .ok (.iload_n 2, 1) := by decide +kernel
theorem dX8_extendLine_32 : decode cX8_extendLine 32 = .ok (.invokevirtual 92, 3) := by decide +kernel
theorem dX8_extendLine_35 : decode cX8_extendLine 35 = .ok (.ireturn, 1) := by decide +kernel
theorem dX8_stopCount_0 : decode cX8_stopCount 0 = .ok (.aload_n 0, 1) := by decide +kernel
theorem dX8_stopCount_1 : decode cX8_stopCount 1 = .ok (.getfield 12, 3) := by decide +kernel
theorem dX8_stopCount_4 : decode cX8_stopCount 4 = .ok (.getfield 73, 3) := by decide +kernel
theorem dX8_stopCount_7 : decode cX8_stopCount 7 = .ok (.getfield 95, 3) := by decide +kernel
theorem dX8_stopCount_10 : decode cX8_stopCount 10 = .ok (.ireturn, 1) := by decide +kernel
theorem dX8_zoneOf_0 : decode cX8_zoneOf 0 = .ok (.aload_n 0, 1) := by decide +kernel
theorem dX8_zoneOf_1 : decode cX8_zoneOf 1 = .ok (.iload_n 1, 1) := by decide +kernel
theorem dX8_zoneOf_2 : decode cX8_zoneOf 2 = .ok (.invokevirtual 98, 3) := by decide +kernel
theorem dX8_zoneOf_5 : decode cX8_zoneOf 5 = .ok (.aload_n 0, 1) := by decide +kernel
theorem dX8_zoneOf_6 : decode cX8_zoneOf 6 = .ok (.getfield 12, 3) := by decide +kernel
theorem dX8_zoneOf_9 : decode cX8_zoneOf 9 = .ok (.getfield 73, 3) := by decide +kernel
theorem dX8_zoneOf_12 : decode cX8_zoneOf 12 = .ok (.getfield 101, 3) := by decide +kernel
theorem dX8_zoneOf_15 : decode cX8_zoneOf 15 = .ok (.iload_n 1, 1) := by decide +kernel
theorem dX8_zoneOf_16 : decode cX8_zoneOf 16 = .ok (.iaload, 1) := by decide +kernel
theorem dX8_zoneOf_17 : decode cX8_zoneOf 17 = .ok (.ireturn, 1) := by decide +kernel
theorem dX8_isTerminus_0 : decode cX8_isTerminus 0 = .ok (.aload_n 0, 1) := by decide +kernel
theorem dX8_isTerminus_1 : decode cX8_isTerminus 1 = .ok (.iload_n 1, 1) := by decide +kernel
theorem dX8_isTerminus_2 : decode cX8_isTerminus 2 = .ok (.invokevirtual 98, 3) := by decide +kernel
theorem dX8_isTerminus_5 : decode cX8_isTerminus 5 = .ok (.aload_n 0, 1) := by decide +kernel
theorem dX8_isTerminus_6 : decode cX8_isTerminus 6 = .ok (.getfield 12, 3) := by decide +kernel
theorem dX8_isTerminus_9 : decode cX8_isTerminus 9 = .ok (.getfield 73, 3) := by decide +kernel
theorem dX8_isTerminus_12 : decode cX8_isTerminus 12 = .ok (.iload_n 1, 1) := by decide +kernel
theorem dX8_isTerminus_13 : decode cX8_isTerminus 13 = .ok (.invokevirtual 105, 3) := by decide +kernel
theorem dX8_isTerminus_16 : decode cX8_isTerminus 16 = .ok (.ireturn, 1) := by decide +kernel
theorem dX8_lineCount_0 : decode cX8_lineCount 0 = .ok (.aload_n 0, 1) := by decide +kernel
theorem dX8_lineCount_1 : decode cX8_lineCount 1 = .ok (.getfield 12, 3) := by decide +kernel
theorem dX8_lineCount_4 : decode cX8_lineCount 4 = .ok (.getfield 73, 3) := by decide +kernel
theorem dX8_lineCount_7 : decode cX8_lineCount 7 = .ok (.getfield 109, 3) := by decide +kernel
theorem dX8_lineCount_10 : decode cX8_lineCount 10 = .ok (.ireturn, 1) := by decide +kernel
theorem dX8_lineLength_0 : decode cX8_lineLength 0 = .ok (.aload_n 0, 1) := by decide +kernel
theorem dX8_lineLength_1 : decode cX8_lineLength 1 = .ok (.iload_n 1, 1) := by decide +kernel
theorem dX8_lineLength_2 : decode cX8_lineLength 2 = .ok (.invokevirtual 112, 3) := by decide +kernel
theorem dX8_lineLength_5 : decode cX8_lineLength 5 = .ok (.aload_n 0, 1) := by decide +kernel
theorem dX8_lineLength_6 : decode cX8_lineLength 6 = .ok (.getfield 12, 3) := by decide +kernel
theorem dX8_lineLength_9 : decode cX8_lineLength 9 = .ok (.getfield 73, 3) := by decide +kernel
theorem dX8_lineLength_12 : decode cX8_lineLength 12 = .ok (.getfield 115, 3) := by decide +kernel
theorem dX8_lineLength_15 : decode cX8_lineLength 15 = .ok (.iload_n 1, 1) := by decide +kernel
theorem dX8_lineLength_16 : decode cX8_lineLength 16 = .ok (.iaload, 1) := by decide +kernel
theorem dX8_lineLength_17 : decode cX8_lineLength 17 = .ok (.ireturn, 1) := by decide +kernel
theorem dX8_stopAt_0 : decode cX8_stopAt 0 = .ok (.aload_n 0, 1) := by decide +kernel
theorem dX8_stopAt_1 : decode cX8_stopAt 1 = .ok (.iload_n 1, 1) := by decide +kernel
theorem dX8_stopAt_2 : decode cX8_stopAt 2 = .ok (.invokevirtual 112, 3) := by decide +kernel
theorem dX8_stopAt_5 : decode cX8_stopAt 5 = .ok (.iload_n 2, 1) := by decide +kernel
theorem dX8_stopAt_6 : decode cX8_stopAt 6 = .ok (.ifCond .lt 19, 3) := by decide +kernel
theorem dX8_stopAt_9 : decode cX8_stopAt 9 = .ok (.iload_n 2, 1) := by decide +kernel
theorem dX8_stopAt_10 : decode cX8_stopAt 10 = .ok (.aload_n 0, 1) := by decide +kernel
theorem dX8_stopAt_11 : decode cX8_stopAt 11 = .ok (.getfield 12, 3) := by decide +kernel
theorem dX8_stopAt_14 : decode cX8_stopAt 14 = .ok (.getfield 73, 3) := by decide +kernel
theorem dX8_stopAt_17 : decode cX8_stopAt 17 = .ok (.getfield 115, 3) := by decide +kernel
theorem dX8_stopAt_20 : decode cX8_stopAt 20 = .ok (.iload_n 1, 1) := by decide +kernel
theorem dX8_stopAt_21 : decode cX8_stopAt 21 = .ok (.iaload, 1) := by decide +kernel
theorem dX8_stopAt_22 : decode cX8_stopAt 22 = .ok (.if_icmp .lt 13, 3) := by decide +kernel
theorem dX8_stopAt_25 : decode cX8_stopAt 25 = .ok (.new 118, 3) := by decide +kernel
theorem dX8_stopAt_28 : decode cX8_stopAt 28 = .ok (.dup, 1) := by decide +kernel
theorem dX8_stopAt_29 : decode cX8_stopAt 29 = .ok (.ldc 120, 2) := by decide +kernel
theorem dX8_stopAt_31 : decode cX8_stopAt 31 = .ok (.invokespecial 122, 3) := by decide +kernel
theorem dX8_stopAt_34 : decode cX8_stopAt 34 = .ok (.athrow, 1) := by decide +kernel
theorem dX8_stopAt_35 : decode cX8_stopAt 35 = .ok (.aload_n 0, 1) := by decide +kernel
theorem dX8_stopAt_36 : decode cX8_stopAt 36 = .ok (.getfield 12, 3) := by decide +kernel
theorem dX8_stopAt_39 : decode cX8_stopAt 39 = .ok (.getfield 73, 3) := by decide +kernel
theorem dX8_stopAt_42 : decode cX8_stopAt 42 = .ok (.getfield 125, 3) := by decide +kernel
theorem dX8_stopAt_45 : decode cX8_stopAt 45 = .ok (.iload_n 1, 1) := by decide +kernel
theorem dX8_stopAt_46 : decode cX8_stopAt 46 = .ok (.aaload, 1) := by decide +kernel
theorem dX8_stopAt_47 : decode cX8_stopAt 47 = .ok (.iload_n 2, 1) := by decide +kernel
theorem dX8_stopAt_48 : decode cX8_stopAt 48 = .ok (.iaload, 1) := by decide +kernel
theorem dX8_stopAt_49 : decode cX8_stopAt 49 = .ok (.ireturn, 1) := by decide +kernel
theorem dX8_commonStops_0 : decode cX8_commonStops 0 = .ok (.aload_n 0, 1) := by decide +kernel
theorem dX8_commonStops_1 : decode cX8_commonStops 1 = .ok (.iload_n 1, 1) := by decide +kernel
theorem dX8_commonStops_2 : decode cX8_commonStops 2 = .ok (.invokevirtual 112, 3) := by decide +kernel
theorem dX8_commonStops_5 : decode cX8_commonStops 5 = .ok (.aload_n 0, 1) := by decide +kernel
theorem dX8_commonStops_6 : decode cX8_commonStops 6 = .ok (.iload_n 2, 1) := by decide +kernel
theorem dX8_commonStops_7 : decode cX8_commonStops 7 = .ok (.invokevirtual 112, 3) := by decide +kernel
theorem dX8_commonStops_10 : decode cX8_commonStops 10 = .ok (.aload_n 0, 1) := by decide +kernel
theorem dX8_commonStops_11 : decode cX8_commonStops 11 = .ok (.getfield 12, 3) := by decide +kernel
theorem dX8_commonStops_14 : decode cX8_commonStops 14 = .ok (.getfield 73, 3) := by decide +kernel
theorem dX8_commonStops_17 : decode cX8_commonStops 17 = .ok (.getfield 129, 3) := by decide +kernel
theorem dX8_commonStops_20 : decode cX8_commonStops 20 = .ok (.iload_n 1, 1) := by decide +kernel
theorem dX8_commonStops_21 : decode cX8_commonStops 21 = .ok (.iaload, 1) := by decide +kernel
theorem dX8_commonStops_22 : decode cX8_commonStops 22 = .ok (.aload_n 0, 1) := by decide +kernel
theorem dX8_commonStops_23 : decode cX8_commonStops 23 = .ok (.getfield 12, 3) := by decide +kernel
theorem dX8_commonStops_26 : decode cX8_commonStops 26 = .ok (.getfield 73, 3) := by decide +kernel
theorem dX8_commonStops_29 : decode cX8_commonStops 29 = .ok (.getfield 129, 3) := by decide +kernel
theorem dX8_commonStops_32 : decode cX8_commonStops 32 = .ok (.iload_n 2, 1) := by decide +kernel
theorem dX8_commonStops_33 : decode cX8_commonStops 33 = .ok (.iaload, 1) := by decide +kernel
theorem dX8_commonStops_34 : decode cX8_commonStops 34 = .ok (.iand, 1) := by decide +kernel
theorem dX8_commonStops_35 : decode cX8_commonStops 35 = .ok (.invokestatic 132, 3) := by decide +kernel
theorem dX8_commonStops_38 : decode cX8_commonStops 38 = .ok (.ireturn, 1) := by decide +kernel
theorem dX8_addTram_0 : decode cX8_addTram 0 = .ok (.aload_n 0, 1) := by decide +kernel
theorem dX8_addTram_1 : decode cX8_addTram 1 = .ok (.getfield 12, 3) := by decide +kernel
theorem dX8_addTram_4 : decode cX8_addTram 4 = .ok (.iload_n 1, 1) := by decide +kernel
theorem dX8_addTram_5 : decode cX8_addTram 5 = .ok (.invokevirtual 137, 3) := by decide +kernel
theorem dX8_addTram_8 : decode cX8_addTram 8 = .ok (.invokestatic 65, 3) := by decide +kernel
theorem dX8_addTram_11 : decode cX8_addTram 11 = .ok (.aload_n 0, 1) := by decide +kernel
theorem dX8_addTram_12 : decode cX8_addTram 12 = .ok (.getfield 25, 3) := by decide +kernel
theorem dX8_addTram_15 : decode cX8_addTram 15 = .ok (.aload_n 0, 1) := by decide +kernel
theorem dX8_addTram_16 : decode cX8_addTram 16 = .ok (.getfield 12, 3) := by decide +kernel
theorem dX8_addTram_19 : decode cX8_addTram 19 = .ok (.invokevirtual 69, 3) := by decide +kernel
theorem dX8_addTram_22 : decode cX8_addTram 22 = .ok (.aload_n 0, 1) := by decide +kernel
theorem dX8_addTram_23 : decode cX8_addTram 23 = .ok (.getfield 12, 3) := by decide +kernel
theorem dX8_addTram_26 : decode cX8_addTram 26 = .ok (.getfield 140, 3) := by decide +kernel
theorem dX8_addTram_29 : decode cX8_addTram 29 = .ok (.iload_n 1, 1) := by decide +kernel
theorem dX8_addTram_30 : decode cX8_addTram 30 = .ok (.invokevirtual 144, 3) := by decide +kernel
theorem dX8_addTram_33 : decode cX8_addTram 33 = .ok (.ireturn, 1) := by decide +kernel
theorem dX8_tick_0 : decode cX8_tick 0 = .ok (.aload_n 0, 1) := by decide +kernel
theorem dX8_tick_1 : decode cX8_tick 1 = .ok (.getfield 25, 3) := by decide +kernel
theorem dX8_tick_4 : decode cX8_tick 4 = .ok (.aload_n 0, 1) := by decide +kernel
theorem dX8_tick_5 : decode cX8_tick 5 = .ok (.getfield 12, 3) := by decide +kernel
theorem dX8_tick_8 : decode cX8_tick 8 = .ok (.invokevirtual 69, 3) := by decide +kernel
theorem dX8_tick_11 : decode cX8_tick 11 = .ok (.aload_n 0, 1) := by decide +kernel
theorem dX8_tick_12 : decode cX8_tick 12 = .ok (.getfield 12, 3) := by decide +kernel
theorem dX8_tick_15 : decode cX8_tick 15 = .ok (.invokevirtual 149, 3) := by decide +kernel
theorem dX8_tick_18 : decode cX8_tick 18 = .ok (.ireturn, 1) := by decide +kernel
theorem dX8_tickCount_0 : decode cX8_tickCount 0 = .ok (.aload_n 0, 1) := by decide +kernel
theorem dX8_tickCount_1 : decode cX8_tickCount 1 = .ok (.getfield 12, 3) := by decide +kernel
theorem dX8_tickCount_4 : decode cX8_tickCount 4 = .ok (.getfield 153, 3) := by decide +kernel
theorem dX8_tickCount_7 : decode cX8_tickCount 7 = .ok (.ireturn, 1) := by decide +kernel
theorem dX8_tramCount_0 : decode cX8_tramCount 0 = .ok (.aload_n 0, 1) := by decide +kernel
theorem dX8_tramCount_1 : decode cX8_tramCount 1 = .ok (.getfield 12, 3) := by decide +kernel
theorem dX8_tramCount_4 : decode cX8_tramCount 4 = .ok (.getfield 140, 3) := by decide +kernel
theorem dX8_tramCount_7 : decode cX8_tramCount 7 = .ok (.getfield 156, 3) := by decide +kernel
theorem dX8_tramCount_10 : decode cX8_tramCount 10 = .ok (.ireturn, 1) := by decide +kernel
theorem dX8_lineOfTram_0 : decode cX8_lineOfTram 0 = .ok (.aload_n 0, 1) := by decide +kernel
theorem dX8_lineOfTram_1 : decode cX8_lineOfTram 1 = .ok (.iload_n 1, 1) := by decide +kernel
theorem dX8_lineOfTram_2 : decode cX8_lineOfTram 2 = .ok (.invokevirtual 159, 3) := by decide +kernel
theorem dX8_lineOfTram_5 : decode cX8_lineOfTram 5 = .ok (.aload_n 0, 1) := by decide +kernel
theorem dX8_lineOfTram_6 : decode cX8_lineOfTram 6 = .ok (.getfield 12, 3) := by decide +kernel
theorem dX8_lineOfTram_9 : decode cX8_lineOfTram 9 = .ok (.getfield 140, 3) := by decide +kernel
theorem dX8_lineOfTram_12 : decode cX8_lineOfTram 12 = .ok (.getfield 162, 3) := by decide +kernel
theorem dX8_lineOfTram_15 : decode cX8_lineOfTram 15 = .ok (.iload_n 1, 1) := by decide +kernel
theorem dX8_lineOfTram_16 : decode cX8_lineOfTram 16 = .ok (.iaload, 1) := by decide +kernel
theorem dX8_lineOfTram_17 : decode cX8_lineOfTram 17 = .ok (.ireturn, 1) := by decide +kernel
theorem dX8_stopOfTram_0 : decode cX8_stopOfTram 0 = .ok (.aload_n 0, 1) := by decide +kernel
theorem dX8_stopOfTram_1 : decode cX8_stopOfTram 1 = .ok (.iload_n 1, 1) := by decide +kernel
theorem dX8_stopOfTram_2 : decode cX8_stopOfTram 2 = .ok (.invokevirtual 159, 3) := by decide +kernel
theorem dX8_stopOfTram_5 : decode cX8_stopOfTram 5 = .ok (.aload_n 0, 1) := by decide +kernel
theorem dX8_stopOfTram_6 : decode cX8_stopOfTram 6 = .ok (.getfield 12, 3) := by decide +kernel
theorem dX8_stopOfTram_9 : decode cX8_stopOfTram 9 = .ok (.iload_n 1, 1) := by decide +kernel
theorem dX8_stopOfTram_10 : decode cX8_stopOfTram 10 = .ok (.invokevirtual 165, 3) := by decide +kernel
theorem dX8_stopOfTram_13 : decode cX8_stopOfTram 13 = .ok (.ireturn, 1) := by decide +kernel
theorem dX8_isForward_0 : decode cX8_isForward 0 = .ok (.aload_n 0, 1) := by decide +kernel
theorem dX8_isForward_1 : decode cX8_isForward 1 = .ok (.iload_n 1, 1) := by decide +kernel
theorem dX8_isForward_2 : decode cX8_isForward 2 = .ok (.invokevirtual 159, 3) := by decide +kernel
theorem dX8_isForward_5 : decode cX8_isForward 5 = .ok (.aload_n 0, 1) := by decide +kernel
theorem dX8_isForward_6 : decode cX8_isForward 6 = .ok (.getfield 12, 3) := by decide +kernel
theorem dX8_isForward_9 : decode cX8_isForward 9 = .ok (.getfield 140, 3) := by decide +kernel
theorem dX8_isForward_12 : decode cX8_isForward 12 = .ok (.getfield 168, 3) := by decide +kernel
theorem dX8_isForward_15 : decode cX8_isForward 15 = .ok (.iload_n 1, 1) := by decide +kernel
theorem dX8_isForward_16 : decode cX8_isForward 16 = .ok (.iaload, 1) := by decide +kernel
theorem dX8_isForward_17 : decode cX8_isForward 17 = .ok (.ifCond .le 7, 3) := by decide +kernel
theorem dX8_isForward_20 : decode cX8_isForward 20 = .ok (.iconst 1, 1) := by decide +kernel
theorem dX8_isForward_21 : decode cX8_isForward 21 = .ok (.goto 4, 3) := by decide +kernel
theorem dX8_isForward_24 : decode cX8_isForward 24 = .ok (.iconst 0, 1) := by decide +kernel
theorem dX8_isForward_25 : decode cX8_isForward 25 = .ok (.ireturn, 1) := by decide +kernel
theorem dX8_crowdOf_0 : decode cX8_crowdOf 0 = .ok (.aload_n 0, 1) := by decide +kernel
theorem dX8_crowdOf_1 : decode cX8_crowdOf 1 = .ok (.iload_n 1, 1) := by decide +kernel
theorem dX8_crowdOf_2 : decode cX8_crowdOf 2 = .ok (.invokevirtual 159, 3) := by decide +kernel
theorem dX8_crowdOf_5 : decode cX8_crowdOf 5 = .ok (.aload_n 0, 1) := by decide +kernel
theorem dX8_crowdOf_6 : decode cX8_crowdOf 6 = .ok (.getfield 12, 3) := by decide +kernel
theorem dX8_crowdOf_9 : decode cX8_crowdOf 9 = .ok (.getfield 171, 3) := by decide +kernel
theorem dX8_crowdOf_12 : decode cX8_crowdOf 12 = .ok (.iload_n 1, 1) := by decide +kernel
theorem dX8_crowdOf_13 : decode cX8_crowdOf 13 = .ok (.invokevirtual 175, 3) := by decide +kernel
theorem dX8_crowdOf_16 : decode cX8_crowdOf 16 = .ok (.ireturn, 1) := by decide +kernel
theorem dX8_fullestTram_0 : decode cX8_fullestTram 0 = .ok (.aload_n 0, 1) := by decide +kernel
theorem dX8_fullestTram_1 : decode cX8_fullestTram 1 = .ok (.getfield 12, 3) := by decide +kernel
theorem dX8_fullestTram_4 : decode cX8_fullestTram 4 = .ok (.getfield 140, 3) := by decide +kernel
theorem dX8_fullestTram_7 : decode cX8_fullestTram 7 = .ok (.getfield 156, 3) := by decide +kernel
theorem dX8_fullestTram_10 : decode cX8_fullestTram 10 = .ok (.ifCond .ne 13, 3) := by decide +kernel
theorem dX8_fullestTram_13 : decode cX8_fullestTram 13 = .ok (.new 118, 3) := by decide +kernel
theorem dX8_fullestTram_16 : decode cX8_fullestTram 16 = .ok (.dup, 1) := by decide +kernel
theorem dX8_fullestTram_17 : decode cX8_fullestTram 17 = .ok (.ldc 180, 2) := by decide +kernel
theorem dX8_fullestTram_19 : decode cX8_fullestTram 19 = .ok (.invokespecial 122, 3) := by decide +kernel
theorem dX8_fullestTram_22 : decode cX8_fullestTram 22 = .ok (.athrow, 1) := by decide +kernel
theorem dX8_fullestTram_23 : decode cX8_fullestTram 23 = .ok (.iconst 0, 1) := by decide +kernel
theorem dX8_fullestTram_24 : decode cX8_fullestTram 24 = .ok (.istore_n 1, 1) := by decide +kernel
theorem dX8_fullestTram_25 : decode cX8_fullestTram 25 = .ok (.iconst 1, 1) := by decide +kernel
theorem dX8_fullestTram_26 : decode cX8_fullestTram 26 = .ok (.istore_n 2, 1) := by decide +kernel
theorem dX8_fullestTram_27 : decode cX8_fullestTram 27 = .ok (.iload_n 2, 1) := by decide +kernel
theorem dX8_fullestTram_28 : decode cX8_fullestTram 28 = .ok (.aload_n 0, 1) := by decide +kernel
theorem dX8_fullestTram_29 : decode cX8_fullestTram 29 = .ok (.getfield 12, 3) := by decide +kernel
theorem dX8_fullestTram_32 : decode cX8_fullestTram 32 = .ok (.getfield 140, 3) := by decide +kernel
theorem dX8_fullestTram_35 : decode cX8_fullestTram 35 = .ok (.getfield 156, 3) := by decide +kernel
theorem dX8_fullestTram_38 : decode cX8_fullestTram 38 = .ok (.if_icmp .ge 36, 3) := by decide +kernel
theorem dX8_fullestTram_41 : decode cX8_fullestTram 41 = .ok (.aload_n 0, 1) := by decide +kernel
theorem dX8_fullestTram_42 : decode cX8_fullestTram 42 = .ok (.getfield 12, 3) := by decide +kernel
theorem dX8_fullestTram_45 : decode cX8_fullestTram 45 = .ok (.getfield 171, 3) := by decide +kernel
theorem dX8_fullestTram_48 : decode cX8_fullestTram 48 = .ok (.iload_n 2, 1) := by decide +kernel
theorem dX8_fullestTram_49 : decode cX8_fullestTram 49 = .ok (.invokevirtual 175, 3) := by decide +kernel
theorem dX8_fullestTram_52 : decode cX8_fullestTram 52 = .ok (.aload_n 0, 1) := by decide +kernel
theorem dX8_fullestTram_53 : decode cX8_fullestTram 53 = .ok (.getfield 12, 3) := by decide +kernel
theorem dX8_fullestTram_56 : decode cX8_fullestTram 56 = .ok (.getfield 171, 3) := by decide +kernel
theorem dX8_fullestTram_59 : decode cX8_fullestTram 59 = .ok (.iload_n 1, 1) := by decide +kernel
theorem dX8_fullestTram_60 : decode cX8_fullestTram 60 = .ok (.invokevirtual 175, 3) := by decide +kernel
theorem dX8_fullestTram_63 : decode cX8_fullestTram 63 = .ok (.if_icmp .le 5, 3) := by decide +kernel
theorem dX8_fullestTram_66 : decode cX8_fullestTram 66 = .ok (.iload_n 2, 1) := by decide +kernel
theorem dX8_fullestTram_67 : decode cX8_fullestTram 67 = .ok (.istore_n 1, 1) := by decide +kernel
theorem dX8_fullestTram_68 : decode cX8_fullestTram 68 = .ok (.iinc 2 1, 3) := by decide +kernel
theorem dX8_fullestTram_71 : decode cX8_fullestTram 71 = .ok (.goto (-44), 3) := by decide +kernel
theorem dX8_fullestTram_74 : decode cX8_fullestTram 74 = .ok (.iload_n 1, 1) := by decide +kernel
theorem dX8_fullestTram_75 : decode cX8_fullestTram 75 = .ok (.ireturn, 1) := by decide +kernel
theorem dX8_arrivalOf_0 : decode cX8_arrivalOf 0 = .ok (.aload_n 0, 1) := by decide +kernel
theorem dX8_arrivalOf_1 : decode cX8_arrivalOf 1 = .ok (.iload_n 1, 1) := by decide +kernel
theorem dX8_arrivalOf_2 : decode cX8_arrivalOf 2 = .ok (.invokevirtual 159, 3) := by decide +kernel
theorem dX8_arrivalOf_5 : decode cX8_arrivalOf 5 = .ok (.aload_n 0, 1) := by decide +kernel
theorem dX8_arrivalOf_6 : decode cX8_arrivalOf 6 = .ok (.iload_n 2, 1) := by decide +kernel
theorem dX8_arrivalOf_7 : decode cX8_arrivalOf 7 = .ok (.invokevirtual 98, 3) := by decide +kernel
theorem dX8_arrivalOf_10 : decode cX8_arrivalOf 10 = .ok (.aload_n 0, 1) := by decide +kernel
theorem dX8_arrivalOf_11 : decode cX8_arrivalOf 11 = .ok (.getfield 12, 3) := by decide +kernel
theorem dX8_arrivalOf_14 : decode cX8_arrivalOf 14 = .ok (.iload_n 1, 1) := by decide +kernel
theorem dX8_arrivalOf_15 : decode cX8_arrivalOf 15 = .ok (.iload_n 2, 1) := by decide +kernel
theorem dX8_arrivalOf_16 : decode cX8_arrivalOf 16 = .ok (.invokevirtual 182, 3) := by decide +kernel
theorem dX8_arrivalOf_19 : decode cX8_arrivalOf 19 = .ok (.invokestatic 185, 3) := by decide +kernel
theorem dX8_arrivalOf_22 : decode cX8_arrivalOf 22 = .ok (.ireturn, 1) := by decide +kernel
theorem dX8_arrivalBySimulation_0 : decode cX8_arrivalBySimulation 0 = .ok (.aload_n 0, 1) := by decide +kernel
theorem dX8_arrivalBySimulation_1 : decode cX8_arrivalBySimulation 1 = .ok (.iload_n 1, 1) := by decide +kernel
theorem dX8_arrivalBySimulation_2 : decode cX8_arrivalBySimulation 2 = .ok (.invokevirtual 159, 3) := by decide +kernel
theorem dX8_arrivalBySimulation_5 : decode cX8_arrivalBySimulation 5 = .ok (.aload_n 0, 1) := by decide +kernel
theorem dX8_arrivalBySimulation_6 : decode cX8_arrivalBySimulation 6 = .ok (.iload_n 2, 1) := by decide +kernel
theorem dX8_arrivalBySimulation_7 : decode cX8_arrivalBySimulation 7 = .ok (.invokevirtual 98, 3) := by decide +kernel
theorem dX8_arrivalBySimulation_10 : decode cX8_arrivalBySimulation 10 = .ok (.aload_n 0, 1) := by decide +kernel
theorem dX8_arrivalBySimulation_11 : decode cX8_arrivalBySimulation 11 = .ok (.getfield 12, 3) := by decide +kernel
theorem dX8_arrivalBySimulation_14 : decode cX8_arrivalBySimulation 14 = .ok (.iload_n 1, 1) := by decide +kernel
theorem dX8_arrivalBySimulation_15 : decode cX8_arrivalBySimulation 15 = .ok (.iload_n 2, 1) := by decide +kernel
theorem dX8_arrivalBySimulation_16 : decode cX8_arrivalBySimulation 16 = .ok (.invokevirtual 188, 3) := by decide +kernel
theorem dX8_arrivalBySimulation_19 : decode cX8_arrivalBySimulation 19 = .ok (.invokestatic 185, 3) := by decide +kernel
theorem dX8_arrivalBySimulation_22 : decode cX8_arrivalBySimulation 22 = .ok (.ireturn, 1) := by decide +kernel
theorem dX8_addPassenger_0 : decode cX8_addPassenger 0 = .ok (.aload_n 0, 1) := by decide +kernel
theorem dX8_addPassenger_1 : decode cX8_addPassenger 1 = .ok (.getfield 12, 3) := by decide +kernel
theorem dX8_addPassenger_4 : decode cX8_addPassenger 4 = .ok (.iload_n 1, 1) := by decide +kernel
theorem dX8_addPassenger_5 : decode cX8_addPassenger 5 = .ok (.invokevirtual 191, 3) := by decide +kernel
theorem dX8_addPassenger_8 : decode cX8_addPassenger 8 = .ok (.invokestatic 65, 3) := by decide +kernel
theorem dX8_addPassenger_11 : decode cX8_addPassenger 11 = .ok (.aload_n 0, 1) := by decide +kernel
theorem dX8_addPassenger_12 : decode cX8_addPassenger 12 = .ok (.getfield 25, 3) := by decide +kernel
theorem dX8_addPassenger_15 : decode cX8_addPassenger 15 = .ok (.aload_n 0, 1) := by decide +kernel
theorem dX8_addPassenger_16 : decode cX8_addPassenger 16 = .ok (.getfield 12, 3) := by decide +kernel
theorem dX8_addPassenger_19 : decode cX8_addPassenger 19 = .ok (.invokevirtual 69, 3) := by decide +kernel
theorem dX8_addPassenger_22 : decode cX8_addPassenger 22 = .ok (.aload_n 0, 1) := by decide +kernel
theorem dX8_addPassenger_23 : decode cX8_addPassenger 23 = .ok (.getfield 12, 3) := by decide +kernel
theorem dX8_addPassenger_26 : decode cX8_addPassenger 26 = .ok (.getfield 171, 3) := by decide +kernel
theorem dX8_addPassenger_29 : decode cX8_addPassenger 29 = .ok (.iload_n 1, 1) := by decide +kernel
theorem dX8_addPassenger_30 : decode cX8_addPassenger 30 = .ok (.invokevirtual 194, 3) := by decide +kernel
theorem dX8_addPassenger_33 : decode cX8_addPassenger 33 = .ok (.ireturn, 1) := by decide +kernel
theorem dX8_sellTicket_0 : decode cX8_sellTicket 0 = .ok (.aload_n 0, 1) := by decide +kernel
theorem dX8_sellTicket_1 : decode cX8_sellTicket 1 = .ok (.getfield 12, 3) := by decide +kernel
theorem dX8_sellTicket_4 : decode cX8_sellTicket 4 = .ok (.iload_n 1, 1) := by decide +kernel
theorem dX8_sellTicket_5 : decode cX8_sellTicket 5 = .ok (.iload_n 2, 1) := by decide +kernel
theorem dX8_sellTicket_6 : decode cX8_sellTicket 6 = .ok (.iload_n 3, 1) := by decide +kernel
theorem dX8_sellTicket_7 : decode cX8_sellTicket 7 = .ok (.invokevirtual 197, 3) := by decide +kernel
theorem dX8_sellTicket_10 : decode cX8_sellTicket 10 = .ok (.invokestatic 65, 3) := by decide +kernel
theorem dX8_sellTicket_13 : decode cX8_sellTicket 13 = .ok (.aload_n 0, 1) := by decide +kernel
theorem dX8_sellTicket_14 : decode cX8_sellTicket 14 = .ok (.getfield 25, 3) := by decide +kernel
theorem dX8_sellTicket_17 : decode cX8_sellTicket 17 = .ok (.aload_n 0, 1) := by decide +kernel
theorem dX8_sellTicket_18 : decode cX8_sellTicket 18 = .ok (.getfield 12, 3) := by decide +kernel
theorem dX8_sellTicket_21 : decode cX8_sellTicket 21 = .ok (.invokevirtual 69, 3) := by decide +kernel
theorem dX8_sellTicket_24 : decode cX8_sellTicket 24 = .ok (.aload_n 0, 1) := by decide +kernel
theorem dX8_sellTicket_25 : decode cX8_sellTicket 25 = .ok (.getfield 12, 3) := by decide +kernel
theorem dX8_sellTicket_28 : decode cX8_sellTicket 28 = .ok (.getfield 171, 3) := by decide +kernel
theorem dX8_sellTicket_31 : decode cX8_sellTicket 31 = .ok (.iload_n 1, 1) := by decide +kernel
theorem dX8_sellTicket_32 : decode cX8_sellTicket 32 = .ok (.iload_n 2, 1) := by decide +kernel
theorem dX8_sellTicket_33 : decode cX8_sellTicket 33 = .ok (.iload_n 3, 1) := by decide +kernel
theorem dX8_sellTicket_34 : decode cX8_sellTicket 34 = .ok (.invokevirtual 201, 3) := by decide +kernel
theorem dX8_sellTicket_37 : decode cX8_sellTicket 37 = .ok (.ireturn, 1) := by decide +kernel
theorem dX8_board_0 : decode cX8_board 0 = .ok (.aload_n 0, 1) := by decide +kernel
theorem dX8_board_1 : decode cX8_board 1 = .ok (.getfield 12, 3) := by decide +kernel
theorem dX8_board_4 : decode cX8_board 4 = .ok (.iload_n 1, 1) := by decide +kernel
theorem dX8_board_5 : decode cX8_board 5 = .ok (.iload_n 2, 1) := by decide +kernel
theorem dX8_board_6 : decode cX8_board 6 = .ok (.invokevirtual 204, 3) := by decide +kernel
theorem dX8_board_9 : decode cX8_board 9 = .ok (.invokestatic 65, 3) := by decide +kernel
theorem dX8_board_12 : decode cX8_board 12 = .ok (.aload_n 0, 1) := by decide +kernel
theorem dX8_board_13 : decode cX8_board 13 = .ok (.getfield 25, 3) := by decide +kernel
theorem dX8_board_16 : decode cX8_board 16 = .ok (.aload_n 0, 1) := by decide +kernel
theorem dX8_board_17 : decode cX8_board 17 = .ok (.getfield 12, 3) := by decide +kernel
theorem dX8_board_20 : decode cX8_board 20 = .ok (.invokevirtual 69, 3) := by decide +kernel
theorem dX8_board_23 : decode cX8_board 23 = .ok (.aload_n 0, 1) := by decide +kernel
theorem dX8_board_24 : decode cX8_board 24 = .ok (.getfield 12, 3) := by decide +kernel
theorem dX8_board_27 : decode cX8_board 27 = .ok (.iload_n 1, 1) := by decide +kernel
theorem dX8_board_28 : decode cX8_board 28 = .ok (.iload_n 2, 1) := by decide +kernel
theorem dX8_board_29 : decode cX8_board 29 = .ok (.invokevirtual 207, 3) := by decide +kernel
theorem dX8_board_32 : decode cX8_board 32 = .ok (.ireturn, 1) := by decide +kernel
theorem dX8_alight_0 : decode cX8_alight 0 = .ok (.aload_n 0, 1) := by decide +kernel
theorem dX8_alight_1 : decode cX8_alight 1 = .ok (.getfield 12, 3) := by decide +kernel
theorem dX8_alight_4 : decode cX8_alight 4 = .ok (.iload_n 1, 1) := by decide +kernel
theorem dX8_alight_5 : decode cX8_alight 5 = .ok (.invokevirtual 211, 3) := by decide +kernel
theorem dX8_alight_8 : decode cX8_alight 8 = .ok (.invokestatic 65, 3) := by decide +kernel
theorem dX8_alight_11 : decode cX8_alight 11 = .ok (.aload_n 0, 1) := by decide +kernel
theorem dX8_alight_12 : decode cX8_alight 12 = .ok (.getfield 25, 3) := by decide +kernel
theorem dX8_alight_15 : decode cX8_alight 15 = .ok (.aload_n 0, 1) := by decide +kernel
theorem dX8_alight_16 : decode cX8_alight 16 = .ok (.getfield 12, 3) := by decide +kernel
theorem dX8_alight_19 : decode cX8_alight 19 = .ok (.invokevirtual 69, 3) := by decide +kernel
theorem dX8_alight_22 : decode cX8_alight 22 = .ok (.aload_n 0, 1) := by decide +kernel
theorem dX8_alight_23 : decode cX8_alight 23 = .ok (.getfield 12, 3) := by decide +kernel
theorem dX8_alight_26 : decode cX8_alight 26 = .ok (.iload_n 1, 1) := by decide +kernel
theorem dX8_alight_27 : decode cX8_alight 27 = .ok (.invokevirtual 214, 3) := by decide +kernel
theorem dX8_alight_30 : decode cX8_alight 30 = .ok (.ireturn, 1) := by decide +kernel
theorem dX8_passengerCount_0 : decode cX8_passengerCount 0 = .ok (.aload_n 0, 1) := by decide +kernel
theorem dX8_passengerCount_1 : decode cX8_passengerCount 1 = .ok (.getfield 12, 3) := by decide +kernel
theorem dX8_passengerCount_4 : decode cX8_passengerCount 4 = .ok (.getfield 171, 3) := by decide +kernel
theorem dX8_passengerCount_7 : decode cX8_passengerCount 7 = .ok (.getfield 217, 3) := by decide +kernel
theorem dX8_passengerCount_10 : decode cX8_passengerCount 10 = .ok (.ireturn, 1) := by decide +kernel
theorem dX8_stopOfPassenger_0 : decode cX8_stopOfPassenger 0 = .ok (.aload_n 0, 1) := by decide +kernel
theorem dX8_stopOfPassenger_1 : decode cX8_stopOfPassenger 1 = .ok (.iload_n 1, 1) := by decide +kernel
theorem dX8_stopOfPassenger_2 : decode cX8_stopOfPassenger 2 = .ok (.invokevirtual 218, 3) := by decide +kernel
theorem dX8_stopOfPassenger_5 : decode cX8_stopOfPassenger 5 = .ok (.aload_n 0, 1) := by decide +kernel
theorem dX8_stopOfPassenger_6 : decode cX8_stopOfPassenger 6 = .ok (.getfield 12, 3) := by decide +kernel
theorem dX8_stopOfPassenger_9 : decode cX8_stopOfPassenger 9 = .ok (.getfield 171, 3) := by decide +kernel
theorem dX8_stopOfPassenger_12 : decode cX8_stopOfPassenger 12 = .ok (.getfield 221, 3) := by decide +kernel
theorem dX8_stopOfPassenger_15 : decode cX8_stopOfPassenger 15 = .ok (.iload_n 1, 1) := by decide +kernel
theorem dX8_stopOfPassenger_16 : decode cX8_stopOfPassenger 16 = .ok (.iaload, 1) := by decide +kernel
theorem dX8_stopOfPassenger_17 : decode cX8_stopOfPassenger 17 = .ok (.ireturn, 1) := by decide +kernel
theorem dX8_tramOfPassenger_0 : decode cX8_tramOfPassenger 0 = .ok (.aload_n 0, 1) := by decide +kernel
theorem dX8_tramOfPassenger_1 : decode cX8_tramOfPassenger 1 = .ok (.iload_n 1, 1) := by decide +kernel
theorem dX8_tramOfPassenger_2 : decode cX8_tramOfPassenger 2 = .ok (.invokevirtual 218, 3) := by decide +kernel
theorem dX8_tramOfPassenger_5 : decode cX8_tramOfPassenger 5 = .ok (.aload_n 0, 1) := by decide +kernel
theorem dX8_tramOfPassenger_6 : decode cX8_tramOfPassenger 6 = .ok (.getfield 12, 3) := by decide +kernel
theorem dX8_tramOfPassenger_9 : decode cX8_tramOfPassenger 9 = .ok (.getfield 171, 3) := by decide +kernel
theorem dX8_tramOfPassenger_12 : decode cX8_tramOfPassenger 12 = .ok (.getfield 224, 3) := by decide +kernel
theorem dX8_tramOfPassenger_15 : decode cX8_tramOfPassenger 15 = .ok (.iload_n 1, 1) := by decide +kernel
theorem dX8_tramOfPassenger_16 : decode cX8_tramOfPassenger 16 = .ok (.iaload, 1) := by decide +kernel
theorem dX8_tramOfPassenger_17 : decode cX8_tramOfPassenger 17 = .ok (.ireturn, 1) := by decide +kernel
theorem dX8_ridesOf_0 : decode cX8_ridesOf 0 = .ok (.aload_n 0, 1) := by decide +kernel
theorem dX8_ridesOf_1 : decode cX8_ridesOf 1 = .ok (.iload_n 1, 1) := by decide +kernel
theorem dX8_ridesOf_2 : decode cX8_ridesOf 2 = .ok (.invokevirtual 218, 3) := by decide +kernel
theorem dX8_ridesOf_5 : decode cX8_ridesOf 5 = .ok (.aload_n 0, 1) := by decide +kernel
theorem dX8_ridesOf_6 : decode cX8_ridesOf 6 = .ok (.getfield 12, 3) := by decide +kernel
theorem dX8_ridesOf_9 : decode cX8_ridesOf 9 = .ok (.getfield 171, 3) := by decide +kernel
theorem dX8_ridesOf_12 : decode cX8_ridesOf 12 = .ok (.getfield 227, 3) := by decide +kernel
theorem dX8_ridesOf_15 : decode cX8_ridesOf 15 = .ok (.iload_n 1, 1) := by decide +kernel
theorem dX8_ridesOf_16 : decode cX8_ridesOf 16 = .ok (.iaload, 1) := by decide +kernel
theorem dX8_ridesOf_17 : decode cX8_ridesOf 17 = .ok (.ireturn, 1) := by decide +kernel
theorem dX8_isValidIn_0 : decode cX8_isValidIn 0 = .ok (.aload_n 0, 1) := by decide +kernel
theorem dX8_isValidIn_1 : decode cX8_isValidIn 1 = .ok (.iload_n 1, 1) := by decide +kernel
theorem dX8_isValidIn_2 : decode cX8_isValidIn 2 = .ok (.invokevirtual 218, 3) := by decide +kernel
theorem dX8_isValidIn_5 : decode cX8_isValidIn 5 = .ok (.iload_n 2, 1) := by decide +kernel
theorem dX8_isValidIn_6 : decode cX8_isValidIn 6 = .ok (.invokestatic 230, 3) := by decide +kernel
theorem dX8_isValidIn_9 : decode cX8_isValidIn 9 = .ok (.ifCond .ne 13, 3) := by decide +kernel
theorem dX8_isValidIn_12 : decode cX8_isValidIn 12 = .ok (.new 233, 3) := by decide +kernel
theorem dX8_isValidIn_15 : decode cX8_isValidIn 15 = .ok (.dup, 1) := by decide +kernel
theorem dX8_isValidIn_16 : decode cX8_isValidIn 16 = .ok (.ldc 235, 2) := by decide +kernel
theorem dX8_isValidIn_18 : decode cX8_isValidIn 18 = .ok (.invokespecial 237, 3) := by decide +kernel
theorem dX8_isValidIn_21 : decode cX8_isValidIn 21 = .ok (.athrow, 1) := by decide +kernel
theorem dX8_isValidIn_22 : decode cX8_isValidIn 22 = .ok (.aload_n 0, 1) := by decide +kernel
theorem dX8_isValidIn_23 : decode cX8_isValidIn 23 = .ok (.getfield 12, 3) := by decide +kernel
theorem dX8_isValidIn_26 : decode cX8_isValidIn 26 = .ok (.getfield 171, 3) := by decide +kernel
theorem dX8_isValidIn_29 : decode cX8_isValidIn 29 = .ok (.iload_n 1, 1) := by decide +kernel
theorem dX8_isValidIn_30 : decode cX8_isValidIn 30 = .ok (.iload_n 2, 1) := by decide +kernel
theorem dX8_isValidIn_31 : decode cX8_isValidIn 31 = .ok (.invokevirtual 238, 3) := by decide +kernel
theorem dX8_isValidIn_34 : decode cX8_isValidIn 34 = .ok (.ireturn, 1) := by decide +kernel
theorem dX8_canBoard_0 : decode cX8_canBoard 0 = .ok (.aload_n 0, 1) := by decide +kernel
theorem dX8_canBoard_1 : decode cX8_canBoard 1 = .ok (.iload_n 1, 1) := by decide +kernel
theorem dX8_canBoard_2 : decode cX8_canBoard 2 = .ok (.invokevirtual 218, 3) := by decide +kernel
theorem dX8_canBoard_5 : decode cX8_canBoard 5 = .ok (.aload_n 0, 1) := by decide +kernel
theorem dX8_canBoard_6 : decode cX8_canBoard 6 = .ok (.iload_n 2, 1) := by decide +kernel
theorem dX8_canBoard_7 : decode cX8_canBoard 7 = .ok (.invokevirtual 159, 3) := by decide +kernel
theorem dX8_canBoard_10 : decode cX8_canBoard 10 = .ok (.aload_n 0, 1) := by decide +kernel
theorem dX8_canBoard_11 : decode cX8_canBoard 11 = .ok (.getfield 12, 3) := by decide +kernel
theorem dX8_canBoard_14 : decode cX8_canBoard 14 = .ok (.iload_n 1, 1) := by decide +kernel
theorem dX8_canBoard_15 : decode cX8_canBoard 15 = .ok (.iload_n 2, 1) := by decide +kernel
theorem dX8_canBoard_16 : decode cX8_canBoard 16 = .ok (.invokevirtual 204, 3) := by decide +kernel
theorem dX8_canBoard_19 : decode cX8_canBoard 19 = .ok (.ifCond .ne 7, 3) := by decide +kernel
theorem dX8_canBoard_22 : decode cX8_canBoard 22 = .ok (.iconst 1, 1) := by decide +kernel
theorem dX8_canBoard_23 : decode cX8_canBoard 23 = .ok (.goto 4, 3) := by decide +kernel
theorem dX8_canBoard_26 : decode cX8_canBoard 26 = .ok (.iconst 0, 1) := by decide +kernel
theorem dX8_canBoard_27 : decode cX8_canBoard 27 = .ok (.ireturn, 1) := by decide +kernel
theorem dX8_isTransfer_0 : decode cX8_isTransfer 0 = .ok (.aload_n 0, 1) := by decide +kernel
theorem dX8_isTransfer_1 : decode cX8_isTransfer 1 = .ok (.iload_n 1, 1) := by decide +kernel
theorem dX8_isTransfer_2 : decode cX8_isTransfer 2 = .ok (.invokevirtual 218, 3) := by decide +kernel
theorem dX8_isTransfer_5 : decode cX8_isTransfer 5 = .ok (.aload_n 0, 1) := by decide +kernel
theorem dX8_isTransfer_6 : decode cX8_isTransfer 6 = .ok (.iload_n 2, 1) := by decide +kernel
theorem dX8_isTransfer_7 : decode cX8_isTransfer 7 = .ok (.invokevirtual 112, 3) := by decide +kernel
theorem dX8_isTransfer_10 : decode cX8_isTransfer 10 = .ok (.aload_n 0, 1) := by decide +kernel
theorem dX8_isTransfer_11 : decode cX8_isTransfer 11 = .ok (.getfield 12, 3) := by decide +kernel
theorem dX8_isTransfer_14 : decode cX8_isTransfer 14 = .ok (.iload_n 1, 1) := by decide +kernel
theorem dX8_isTransfer_15 : decode cX8_isTransfer 15 = .ok (.iload_n 2, 1) := by decide +kernel
theorem dX8_isTransfer_16 : decode cX8_isTransfer 16 = .ok (.invokevirtual 241, 3) := by decide +kernel
theorem dX8_isTransfer_19 : decode cX8_isTransfer 19 = .ok (.ireturn, 1) := by decide +kernel
theorem dX8_addSecret_0 : decode cX8_addSecret 0 = .ok (.aload_n 0, 1) := by decide +kernel
theorem dX8_addSecret_1 : decode cX8_addSecret 1 = .ok (.getfield 12, 3) := by decide +kernel
theorem dX8_addSecret_4 : decode cX8_addSecret 4 = .ok (.iload_n 1, 1) := by decide +kernel
theorem dX8_addSecret_5 : decode cX8_addSecret 5 = .ok (.invokevirtual 244, 3) := by decide +kernel
theorem dX8_addSecret_8 : decode cX8_addSecret 8 = .ok (.invokestatic 65, 3) := by decide +kernel
theorem dX8_addSecret_11 : decode cX8_addSecret 11 = .ok (.aload_n 0, 1) := by decide +kernel
theorem dX8_addSecret_12 : decode cX8_addSecret 12 = .ok (.getfield 25, 3) := by decide +kernel
theorem dX8_addSecret_15 : decode cX8_addSecret 15 = .ok (.aload_n 0, 1) := by decide +kernel
theorem dX8_addSecret_16 : decode cX8_addSecret 16 = .ok (.getfield 12, 3) := by decide +kernel
theorem dX8_addSecret_19 : decode cX8_addSecret 19 = .ok (.invokevirtual 69, 3) := by decide +kernel
theorem dX8_addSecret_22 : decode cX8_addSecret 22 = .ok (.aload_n 0, 1) := by decide +kernel
theorem dX8_addSecret_23 : decode cX8_addSecret 23 = .ok (.getfield 12, 3) := by decide +kernel
theorem dX8_addSecret_26 : decode cX8_addSecret 26 = .ok (.getfield 247, 3) := by decide +kernel
theorem dX8_addSecret_29 : decode cX8_addSecret 29 = .ok (.iload_n 1, 1) := by decide +kernel
theorem dX8_addSecret_30 : decode cX8_addSecret 30 = .ok (.invokevirtual 251, 3) := by decide +kernel
theorem dX8_addSecret_33 : decode cX8_addSecret 33 = .ok (.ireturn, 1) := by decide +kernel
theorem dX8_whisper_0 : decode cX8_whisper 0 = .ok (.aload_n 0, 1) := by decide +kernel
theorem dX8_whisper_1 : decode cX8_whisper 1 = .ok (.getfield 12, 3) := by decide +kernel
theorem dX8_whisper_4 : decode cX8_whisper 4 = .ok (.iload_n 1, 1) := by decide +kernel
theorem dX8_whisper_5 : decode cX8_whisper 5 = .ok (.iload_n 2, 1) := by decide +kernel
theorem dX8_whisper_6 : decode cX8_whisper 6 = .ok (.invokevirtual 256, 3) := by decide +kernel
theorem dX8_whisper_9 : decode cX8_whisper 9 = .ok (.invokestatic 65, 3) := by decide +kernel
theorem dX8_whisper_12 : decode cX8_whisper 12 = .ok (.aload_n 0, 1) := by decide +kernel
theorem dX8_whisper_13 : decode cX8_whisper 13 = .ok (.getfield 25, 3) := by decide +kernel
theorem dX8_whisper_16 : decode cX8_whisper 16 = .ok (.aload_n 0, 1) := by decide +kernel
theorem dX8_whisper_17 : decode cX8_whisper 17 = .ok (.getfield 12, 3) := by decide +kernel
theorem dX8_whisper_20 : decode cX8_whisper 20 = .ok (.invokevirtual 69, 3) := by decide +kernel
theorem dX8_whisper_23 : decode cX8_whisper 23 = .ok (.aload_n 0, 1) := by decide +kernel
theorem dX8_whisper_24 : decode cX8_whisper 24 = .ok (.getfield 12, 3) := by decide +kernel
theorem dX8_whisper_27 : decode cX8_whisper 27 = .ok (.iload_n 1, 1) := by decide +kernel
theorem dX8_whisper_28 : decode cX8_whisper 28 = .ok (.iload_n 2, 1) := by decide +kernel
theorem dX8_whisper_29 : decode cX8_whisper 29 = .ok (.invokevirtual 259, 3) := by decide +kernel
theorem dX8_whisper_32 : decode cX8_whisper 32 = .ok (.ireturn, 1) := by decide +kernel
theorem dX8_secretCount_0 : decode cX8_secretCount 0 = .ok (.aload_n 0, 1) := by decide +kernel
theorem dX8_secretCount_1 : decode cX8_secretCount 1 = .ok (.getfield 12, 3) := by decide +kernel
theorem dX8_secretCount_4 : decode cX8_secretCount 4 = .ok (.getfield 247, 3) := by decide +kernel
theorem dX8_secretCount_7 : decode cX8_secretCount 7 = .ok (.getfield 262, 3) := by decide +kernel
theorem dX8_secretCount_10 : decode cX8_secretCount 10 = .ok (.ireturn, 1) := by decide +kernel
theorem dX8_carrierOf_0 : decode cX8_carrierOf 0 = .ok (.aload_n 0, 1) := by decide +kernel
theorem dX8_carrierOf_1 : decode cX8_carrierOf 1 = .ok (.iload_n 1, 1) := by decide +kernel
theorem dX8_carrierOf_2 : decode cX8_carrierOf 2 = .ok (.invokevirtual 263, 3) := by decide +kernel
theorem dX8_carrierOf_5 : decode cX8_carrierOf 5 = .ok (.aload_n 0, 1) := by decide +kernel
theorem dX8_carrierOf_6 : decode cX8_carrierOf 6 = .ok (.getfield 12, 3) := by decide +kernel
theorem dX8_carrierOf_9 : decode cX8_carrierOf 9 = .ok (.getfield 247, 3) := by decide +kernel
theorem dX8_carrierOf_12 : decode cX8_carrierOf 12 = .ok (.getfield 266, 3) := by decide +kernel
theorem dX8_carrierOf_15 : decode cX8_carrierOf 15 = .ok (.iload_n 1, 1) := by decide +kernel
theorem dX8_carrierOf_16 : decode cX8_carrierOf 16 = .ok (.iaload, 1) := by decide +kernel
theorem dX8_carrierOf_17 : decode cX8_carrierOf 17 = .ok (.ireturn, 1) := by decide +kernel
theorem dX8_isTruth_0 : decode cX8_isTruth 0 = .ok (.aload_n 0, 1) := by decide +kernel
theorem dX8_isTruth_1 : decode cX8_isTruth 1 = .ok (.iload_n 1, 1) := by decide +kernel
theorem dX8_isTruth_2 : decode cX8_isTruth 2 = .ok (.invokevirtual 263, 3) := by decide +kernel
theorem dX8_isTruth_5 : decode cX8_isTruth 5 = .ok (.aload_n 0, 1) := by decide +kernel
theorem dX8_isTruth_6 : decode cX8_isTruth 6 = .ok (.getfield 12, 3) := by decide +kernel
theorem dX8_isTruth_9 : decode cX8_isTruth 9 = .ok (.getfield 247, 3) := by decide +kernel
theorem dX8_isTruth_12 : decode cX8_isTruth 12 = .ok (.iload_n 1, 1) := by decide +kernel
theorem dX8_isTruth_13 : decode cX8_isTruth 13 = .ok (.invokevirtual 269, 3) := by decide +kernel
theorem dX8_isTruth_16 : decode cX8_isTruth 16 = .ok (.ireturn, 1) := by decide +kernel
theorem dX8_knows_0 : decode cX8_knows 0 = .ok (.aload_n 0, 1) := by decide +kernel
theorem dX8_knows_1 : decode cX8_knows 1 = .ok (.iload_n 1, 1) := by decide +kernel
theorem dX8_knows_2 : decode cX8_knows 2 = .ok (.invokevirtual 218, 3) := by decide +kernel
theorem dX8_knows_5 : decode cX8_knows 5 = .ok (.aload_n 0, 1) := by decide +kernel
theorem dX8_knows_6 : decode cX8_knows 6 = .ok (.iload_n 2, 1) := by decide +kernel
theorem dX8_knows_7 : decode cX8_knows 7 = .ok (.invokevirtual 263, 3) := by decide +kernel
theorem dX8_knows_10 : decode cX8_knows 10 = .ok (.aload_n 0, 1) := by decide +kernel
theorem dX8_knows_11 : decode cX8_knows 11 = .ok (.getfield 12, 3) := by decide +kernel
theorem dX8_knows_14 : decode cX8_knows 14 = .ok (.getfield 247, 3) := by decide +kernel
theorem dX8_knows_17 : decode cX8_knows 17 = .ok (.iload_n 1, 1) := by decide +kernel
theorem dX8_knows_18 : decode cX8_knows 18 = .ok (.iload_n 2, 1) := by decide +kernel
theorem dX8_knows_19 : decode cX8_knows 19 = .ok (.invokevirtual 272, 3) := by decide +kernel
theorem dX8_knows_22 : decode cX8_knows 22 = .ok (.ireturn, 1) := by decide +kernel
theorem dX8_knowerCount_0 : decode cX8_knowerCount 0 = .ok (.aload_n 0, 1) := by decide +kernel
theorem dX8_knowerCount_1 : decode cX8_knowerCount 1 = .ok (.iload_n 1, 1) := by decide +kernel
theorem dX8_knowerCount_2 : decode cX8_knowerCount 2 = .ok (.invokevirtual 263, 3) := by decide +kernel
theorem dX8_knowerCount_5 : decode cX8_knowerCount 5 = .ok (.aload_n 0, 1) := by decide +kernel
theorem dX8_knowerCount_6 : decode cX8_knowerCount 6 = .ok (.getfield 12, 3) := by decide +kernel
theorem dX8_knowerCount_9 : decode cX8_knowerCount 9 = .ok (.getfield 247, 3) := by decide +kernel
theorem dX8_knowerCount_12 : decode cX8_knowerCount 12 = .ok (.iload_n 1, 1) := by decide +kernel
theorem dX8_knowerCount_13 : decode cX8_knowerCount 13 = .ok (.invokevirtual 275, 3) := by decide +kernel
theorem dX8_knowerCount_16 : decode cX8_knowerCount 16 = .ok (.ireturn, 1) := by decide +kernel
theorem dX8_wisestPassenger_0 : decode cX8_wisestPassenger 0 = .ok (.iconst 0, 1) := by decide +kernel
theorem dX8_wisestPassenger_1 : decode cX8_wisestPassenger 1 = .ok (.istore_n 2, 1) := by decide +kernel
theorem dX8_wisestPassenger_2 : decode cX8_wisestPassenger 2 = .ok (.iload_n 2, 1) := by decide +kernel
theorem dX8_wisestPassenger_3 : decode cX8_wisestPassenger 3 = .ok (.aload_n 0, 1) := by decide +kernel
theorem dX8_wisestPassenger_4 : decode cX8_wisestPassenger 4 = .ok (.getfield 12, 3) := by decide +kernel
theorem dX8_wisestPassenger_7 : decode cX8_wisestPassenger 7 = .ok (.getfield 171, 3) := by decide +kernel
theorem dX8_wisestPassenger_10 : decode cX8_wisestPassenger 10 = .ok (.getfield 217, 3) := by decide +kernel
theorem dX8_wisestPassenger_13 : decode cX8_wisestPassenger 13 = .ok (.if_icmp .ge 23, 3) := by decide +kernel
theorem dX8_wisestPassenger_16 : decode cX8_wisestPassenger 16 = .ok (.aload_n 0, 1) := by decide +kernel
theorem dX8_wisestPassenger_17 : decode cX8_wisestPassenger 17 = .ok (.getfield 12, 3) := by decide +kernel
theorem dX8_wisestPassenger_20 : decode cX8_wisestPassenger 20 = .ok (.iload_n 2, 1) := by decide +kernel
theorem dX8_wisestPassenger_21 : decode cX8_wisestPassenger 21 = .ok (.invokevirtual 278, 3) := by decide +kernel
theorem dX8_wisestPassenger_24 : decode cX8_wisestPassenger 24 = .ok (.iload_n 1, 1) := by decide +kernel
theorem dX8_wisestPassenger_25 : decode cX8_wisestPassenger 25 = .ok (.if_icmp .ne 5, 3) := by decide +kernel
theorem dX8_wisestPassenger_28 : decode cX8_wisestPassenger 28 = .ok (.iload_n 2, 1) := by decide +kernel
theorem dX8_wisestPassenger_29 : decode cX8_wisestPassenger 29 = .ok (.ireturn, 1) := by decide +kernel
theorem dX8_wisestPassenger_30 : decode cX8_wisestPassenger 30 = .ok (.iinc 2 1, 3) := by decide +kernel
theorem dX8_wisestPassenger_33 : decode cX8_wisestPassenger 33 = .ok (.goto (-31), 3) := by decide +kernel
theorem dX8_wisestPassenger_36 : decode cX8_wisestPassenger 36 = .ok (.new 118, 3) := by decide +kernel
theorem dX8_wisestPassenger_39 : decode cX8_wisestPassenger 39 = .ok (.dup, 1) := by decide +kernel
theorem dX8_wisestPassenger_40 : decode cX8_wisestPassenger 40 = .ok (.ldc_w 281, 3) := by decide +kernel
theorem dX8_wisestPassenger_43 : decode cX8_wisestPassenger 43 = .ok (.invokespecial 122, 3) := by decide +kernel
theorem dX8_wisestPassenger_46 : decode cX8_wisestPassenger 46 = .ok (.athrow, 1) := by decide +kernel
theorem dX8_distance_0 : decode cX8_distance 0 = .ok (.aload_n 0, 1) := by decide +kernel
theorem dX8_distance_1 : decode cX8_distance 1 = .ok (.iload_n 1, 1) := by decide +kernel
theorem dX8_distance_2 : decode cX8_distance 2 = .ok (.invokevirtual 98, 3) := by decide +kernel
theorem dX8_distance_5 : decode cX8_distance 5 = .ok (.aload_n 0, 1) := by decide +kernel
theorem dX8_distance_6 : decode cX8_distance 6 = .ok (.iload_n 2, 1) := by decide +kernel
theorem dX8_distance_7 : decode cX8_distance 7 = .ok (.invokevirtual 98, 3) := by decide +kernel
theorem dX8_distance_10 : decode cX8_distance 10 = .ok (.aload_n 0, 1) := by decide +kernel
theorem dX8_distance_11 : decode cX8_distance 11 = .ok (.getfield 32, 3) := by decide +kernel
theorem dX8_distance_14 : decode cX8_distance 14 = .ok (.aload_n 0, 1) := by decide +kernel
theorem dX8_distance_15 : decode cX8_distance 15 = .ok (.getfield 12, 3) := by decide +kernel
theorem dX8_distance_18 : decode cX8_distance 18 = .ok (.getfield 73, 3) := by decide +kernel
theorem dX8_distance_21 : decode cX8_distance 21 = .ok (.iload_n 1, 1) := by decide +kernel
theorem dX8_distance_22 : decode cX8_distance 22 = .ok (.iload_n 2, 1) := by decide +kernel
theorem dX8_distance_23 : decode cX8_distance 23 = .ok (.invokevirtual 283, 3) := by decide +kernel
theorem dX8_distance_26 : decode cX8_distance 26 = .ok (.invokestatic 185, 3) := by decide +kernel
theorem dX8_distance_29 : decode cX8_distance 29 = .ok (.ireturn, 1) := by decide +kernel
theorem dX8_distanceByRelaxation_0 : decode cX8_distanceByRelaxation 0 = .ok (.aload_n 0, 1) := by decide +kernel
theorem dX8_distanceByRelaxation_1 : decode cX8_distanceByRelaxation 1 = .ok (.iload_n 1, 1) := by decide +kernel
theorem dX8_distanceByRelaxation_2 : decode cX8_distanceByRelaxation 2 = .ok (.invokevirtual 98, 3) := by decide +kernel
theorem dX8_distanceByRelaxation_5 : decode cX8_distanceByRelaxation 5 = .ok (.aload_n 0, 1) := by decide +kernel
theorem dX8_distanceByRelaxation_6 : decode cX8_distanceByRelaxation 6 = .ok (.iload_n 2, 1) := by decide +kernel
theorem dX8_distanceByRelaxation_7 : decode cX8_distanceByRelaxation 7 = .ok (.invokevirtual 98, 3) := by decide +kernel
theorem dX8_distanceByRelaxation_10 : decode cX8_distanceByRelaxation 10 = .ok (.aload_n 0, 1) := by decide +kernel
theorem dX8_distanceByRelaxation_11 : decode cX8_distanceByRelaxation 11 = .ok (.getfield 32, 3) := by decide +kernel
theorem dX8_distanceByRelaxation_14 : decode cX8_distanceByRelaxation 14 = .ok (.aload_n 0, 1) := by decide +kernel
theorem dX8_distanceByRelaxation_15 : decode cX8_distanceByRelaxation 15 = .ok (.getfield 12, 3) := by decide +kernel
theorem dX8_distanceByRelaxation_18 : decode cX8_distanceByRelaxation 18 = .ok (.getfield 73, 3) := by decide +kernel
theorem dX8_distanceByRelaxation_21 : decode cX8_distanceByRelaxation 21 = .ok (.iload_n 1, 1) := by decide +kernel
theorem dX8_distanceByRelaxation_22 : decode cX8_distanceByRelaxation 22 = .ok (.iload_n 2, 1) := by decide +kernel
theorem dX8_distanceByRelaxation_23 : decode cX8_distanceByRelaxation 23 = .ok (.invokevirtual 287, 3) := by decide +kernel
theorem dX8_distanceByRelaxation_26 : decode cX8_distanceByRelaxation 26 = .ok (.invokestatic 185, 3) := by decide +kernel
theorem dX8_distanceByRelaxation_29 : decode cX8_distanceByRelaxation 29 = .ok (.ireturn, 1) := by decide +kernel
theorem dX8_changes_0 : decode cX8_changes 0 = .ok (.aload_n 0, 1) := by decide +kernel
theorem dX8_changes_1 : decode cX8_changes 1 = .ok (.iload_n 1, 1) := by decide +kernel
theorem dX8_changes_2 : decode cX8_changes 2 = .ok (.invokevirtual 98, 3) := by decide +kernel
theorem dX8_changes_5 : decode cX8_changes 5 = .ok (.aload_n 0, 1) := by decide +kernel
theorem dX8_changes_6 : decode cX8_changes 6 = .ok (.iload_n 2, 1) := by decide +kernel
theorem dX8_changes_7 : decode cX8_changes 7 = .ok (.invokevirtual 98, 3) := by decide +kernel
theorem dX8_changes_10 : decode cX8_changes 10 = .ok (.aload_n 0, 1) := by decide +kernel
theorem dX8_changes_11 : decode cX8_changes 11 = .ok (.getfield 32, 3) := by decide +kernel
theorem dX8_changes_14 : decode cX8_changes 14 = .ok (.aload_n 0, 1) := by decide +kernel
theorem dX8_changes_15 : decode cX8_changes 15 = .ok (.getfield 12, 3) := by decide +kernel
theorem dX8_changes_18 : decode cX8_changes 18 = .ok (.getfield 73, 3) := by decide +kernel
theorem dX8_changes_21 : decode cX8_changes 21 = .ok (.iload_n 1, 1) := by decide +kernel
theorem dX8_changes_22 : decode cX8_changes 22 = .ok (.iload_n 2, 1) := by decide +kernel
theorem dX8_changes_23 : decode cX8_changes 23 = .ok (.invokevirtual 290, 3) := by decide +kernel
theorem dX8_changes_26 : decode cX8_changes 26 = .ok (.invokestatic 185, 3) := by decide +kernel
theorem dX8_changes_29 : decode cX8_changes 29 = .ok (.ireturn, 1) := by decide +kernel
theorem dX8_changesByGrowth_0 : decode cX8_changesByGrowth 0 = .ok (.aload_n 0, 1) := by decide +kernel
theorem dX8_changesByGrowth_1 : decode cX8_changesByGrowth 1 = .ok (.iload_n 1, 1) := by decide +kernel
theorem dX8_changesByGrowth_2 : decode cX8_changesByGrowth 2 = .ok (.invokevirtual 98, 3) := by decide +kernel
theorem dX8_changesByGrowth_5 : decode cX8_changesByGrowth 5 = .ok (.aload_n 0, 1) := by decide +kernel
theorem dX8_changesByGrowth_6 : decode cX8_changesByGrowth 6 = .ok (.iload_n 2, 1) := by decide +kernel
theorem dX8_changesByGrowth_7 : decode cX8_changesByGrowth 7 = .ok (.invokevirtual 98, 3) := by decide +kernel
theorem dX8_changesByGrowth_10 : decode cX8_changesByGrowth 10 = .ok (.aload_n 0, 1) := by decide +kernel
theorem dX8_changesByGrowth_11 : decode cX8_changesByGrowth 11 = .ok (.getfield 32, 3) := by decide +kernel
theorem dX8_changesByGrowth_14 : decode cX8_changesByGrowth 14 = .ok (.aload_n 0, 1) := by decide +kernel
theorem dX8_changesByGrowth_15 : decode cX8_changesByGrowth 15 = .ok (.getfield 12, 3) := by decide +kernel
theorem dX8_changesByGrowth_18 : decode cX8_changesByGrowth 18 = .ok (.getfield 73, 3) := by decide +kernel
theorem dX8_changesByGrowth_21 : decode cX8_changesByGrowth 21 = .ok (.iload_n 1, 1) := by decide +kernel
theorem dX8_changesByGrowth_22 : decode cX8_changesByGrowth 22 = .ok (.iload_n 2, 1) := by decide +kernel
theorem dX8_changesByGrowth_23 : decode cX8_changesByGrowth 23 = .ok (.invokevirtual 293, 3) := by decide +kernel
theorem dX8_changesByGrowth_26 : decode cX8_changesByGrowth 26 = .ok (.invokestatic 185, 3) := by decide +kernel
theorem dX8_changesByGrowth_29 : decode cX8_changesByGrowth 29 = .ok (.ireturn, 1) := by decide +kernel
theorem dX8_writeLine_0 : decode cX8_writeLine 0 = .ok (.aload_n 0, 1) := by decide +kernel
theorem dX8_writeLine_1 : decode cX8_writeLine 1 = .ok (.iload_n 1, 1) := by decide +kernel
theorem dX8_writeLine_2 : decode cX8_writeLine 2 = .ok (.invokevirtual 112, 3) := by decide +kernel
theorem dX8_writeLine_5 : decode cX8_writeLine 5 = .ok (.aload_n 0, 1) := by decide +kernel
theorem dX8_writeLine_6 : decode cX8_writeLine 6 = .ok (.getfield 46, 3) := by decide +kernel
theorem dX8_writeLine_9 : decode cX8_writeLine 9 = .ok (.iconst 0, 1) := by decide +kernel
theorem dX8_writeLine_10 : decode cX8_writeLine 10 = .ok (.invokevirtual 296, 3) := by decide +kernel
theorem dX8_writeLine_13 : decode cX8_writeLine 13 = .ok (.iconst 0, 1) := by decide +kernel
theorem dX8_writeLine_14 : decode cX8_writeLine 14 = .ok (.istore_n 2, 1) := by decide +kernel
theorem dX8_writeLine_15 : decode cX8_writeLine 15 = .ok (.iload_n 2, 1) := by decide +kernel
theorem dX8_writeLine_16 : decode cX8_writeLine 16 = .ok (.aload_n 0, 1) := by decide +kernel
theorem dX8_writeLine_17 : decode cX8_writeLine 17 = .ok (.getfield 12, 3) := by decide +kernel
theorem dX8_writeLine_20 : decode cX8_writeLine 20 = .ok (.getfield 73, 3) := by decide +kernel
theorem dX8_writeLine_23 : decode cX8_writeLine 23 = .ok (.getfield 115, 3) := by decide +kernel
theorem dX8_writeLine_26 : decode cX8_writeLine 26 = .ok (.iload_n 1, 1) := by decide +kernel
theorem dX8_writeLine_27 : decode cX8_writeLine 27 = .ok (.iaload, 1) := by decide +kernel
theorem dX8_writeLine_28 : decode cX8_writeLine 28 = .ok (.if_icmp .ge 45, 3) := by decide +kernel
theorem dX8_writeLine_31 : decode cX8_writeLine 31 = .ok (.iload_n 2, 1) := by decide +kernel
theorem dX8_writeLine_32 : decode cX8_writeLine 32 = .ok (.ifCond .le 13, 3) := by decide +kernel
theorem dX8_writeLine_35 : decode cX8_writeLine 35 = .ok (.aload_n 0, 1) := by decide +kernel
theorem dX8_writeLine_36 : decode cX8_writeLine 36 = .ok (.getfield 46, 3) := by decide +kernel
theorem dX8_writeLine_39 : decode cX8_writeLine 39 = .ok (.bipush 45, 2) := by decide +kernel
theorem dX8_writeLine_41 : decode cX8_writeLine 41 = .ok (.invokevirtual 299, 3) := by decide +kernel
theorem dX8_writeLine_44 : decode cX8_writeLine 44 = .ok (.pop, 1) := by decide +kernel
theorem dX8_writeLine_45 : decode cX8_writeLine 45 = .ok (.aload_n 0, 1) := by decide +kernel
theorem dX8_writeLine_46 : decode cX8_writeLine 46 = .ok (.getfield 46, 3) := by decide +kernel
theorem dX8_writeLine_49 : decode cX8_writeLine 49 = .ok (.aload_n 0, 1) := by decide +kernel
theorem dX8_writeLine_50 : decode cX8_writeLine 50 = .ok (.getfield 12, 3) := by decide +kernel
theorem dX8_writeLine_53 : decode cX8_writeLine 53 = .ok (.getfield 73, 3) := by decide +kernel
theorem dX8_writeLine_56 : decode cX8_writeLine 56 = .ok (.getfield 125, 3) := by decide +kernel
theorem dX8_writeLine_59 : decode cX8_writeLine 59 = .ok (.iload_n 1, 1) := by decide +kernel
theorem dX8_writeLine_60 : decode cX8_writeLine 60 = .ok (.aaload, 1) := by decide +kernel
theorem dX8_writeLine_61 : decode cX8_writeLine 61 = .ok (.iload_n 2, 1) := by decide +kernel
theorem dX8_writeLine_62 : decode cX8_writeLine 62 = .ok (.iaload, 1) := by decide +kernel
theorem dX8_writeLine_63 : decode cX8_writeLine 63 = .ok (.invokevirtual 303, 3) := by decide +kernel
theorem dX8_writeLine_66 : decode cX8_writeLine 66 = .ok (.pop, 1) := by decide +kernel
theorem dX8_writeLine_67 : decode cX8_writeLine 67 = .ok (.iinc 2 1, 3) := by decide +kernel
theorem dX8_writeLine_70 : decode cX8_writeLine 70 = .ok (.goto (-55), 3) := by decide +kernel
theorem dX8_writeLine_73 : decode cX8_writeLine 73 = .ok (.aload_n 0, 1) := by decide +kernel
theorem dX8_writeLine_74 : decode cX8_writeLine 74 = .ok (.getfield 46, 3) := by decide +kernel
theorem dX8_writeLine_77 : decode cX8_writeLine 77 = .ok (.invokevirtual 306, 3) := by decide +kernel
theorem dX8_writeLine_80 : decode cX8_writeLine 80 = .ok (.ireturn, 1) := by decide +kernel
theorem dX8_writePassenger_0 : decode cX8_writePassenger 0 = .ok (.aload_n 0, 1) := by decide +kernel
theorem dX8_writePassenger_1 : decode cX8_writePassenger 1 = .ok (.iload_n 1, 1) := by decide +kernel
theorem dX8_writePassenger_2 : decode cX8_writePassenger 2 = .ok (.invokevirtual 218, 3) := by decide +kernel
theorem dX8_writePassenger_5 : decode cX8_writePassenger 5 = .ok (.aload_n 0, 1) := by decide +kernel
theorem dX8_writePassenger_6 : decode cX8_writePassenger 6 = .ok (.getfield 46, 3) := by decide +kernel
theorem dX8_writePassenger_9 : decode cX8_writePassenger 9 = .ok (.iconst 0, 1) := by decide +kernel
theorem dX8_writePassenger_10 : decode cX8_writePassenger 10 = .ok (.invokevirtual 296, 3) := by decide +kernel
theorem dX8_writePassenger_13 : decode cX8_writePassenger 13 = .ok (.aload_n 0, 1) := by decide +kernel
theorem dX8_writePassenger_14 : decode cX8_writePassenger 14 = .ok (.getfield 46, 3) := by decide +kernel
theorem dX8_writePassenger_17 : decode cX8_writePassenger 17 = .ok (.iload_n 1, 1) := by decide +kernel
theorem dX8_writePassenger_18 : decode cX8_writePassenger 18 = .ok (.invokevirtual 303, 3) := by decide +kernel
theorem dX8_writePassenger_21 : decode cX8_writePassenger 21 = .ok (.pop, 1) := by decide +kernel
theorem dX8_writePassenger_22 : decode cX8_writePassenger 22 = .ok (.aload_n 0, 1) := by decide +kernel
theorem dX8_writePassenger_23 : decode cX8_writePassenger 23 = .ok (.iload_n 1, 1) := by decide +kernel
theorem dX8_writePassenger_24 : decode cX8_writePassenger 24 = .ok (.invokevirtual 309, 3) := by decide +kernel
theorem dX8_writePassenger_27 : decode cX8_writePassenger 27 = .ok (.aload_n 0, 1) := by decide +kernel
theorem dX8_writePassenger_28 : decode cX8_writePassenger 28 = .ok (.getfield 46, 3) := by decide +kernel
theorem dX8_writePassenger_31 : decode cX8_writePassenger 31 = .ok (.bipush 114, 2) := by decide +kernel
theorem dX8_writePassenger_33 : decode cX8_writePassenger 33 = .ok (.invokevirtual 299, 3) := by decide +kernel
theorem dX8_writePassenger_36 : decode cX8_writePassenger 36 = .ok (.pop, 1) := by decide +kernel
theorem dX8_writePassenger_37 : decode cX8_writePassenger 37 = .ok (.aload_n 0, 1) := by decide +kernel
theorem dX8_writePassenger_38 : decode cX8_writePassenger 38 = .ok (.getfield 46, 3) := by decide +kernel
theorem dX8_writePassenger_41 : decode cX8_writePassenger 41 = .ok (.aload_n 0, 1) := by decide +kernel
theorem dX8_writePassenger_42 : decode cX8_writePassenger 42 = .ok (.getfield 12, 3) := by decide +kernel
theorem dX8_writePassenger_45 : decode cX8_writePassenger 45 = .ok (.getfield 171, 3) := by decide +kernel
theorem dX8_writePassenger_48 : decode cX8_writePassenger 48 = .ok (.getfield 227, 3) := by decide +kernel
theorem dX8_writePassenger_51 : decode cX8_writePassenger 51 = .ok (.iload_n 1, 1) := by decide +kernel
theorem dX8_writePassenger_52 : decode cX8_writePassenger 52 = .ok (.iaload, 1) := by decide +kernel
theorem dX8_writePassenger_53 : decode cX8_writePassenger 53 = .ok (.invokevirtual 303, 3) := by decide +kernel
theorem dX8_writePassenger_56 : decode cX8_writePassenger 56 = .ok (.pop, 1) := by decide +kernel
theorem dX8_writePassenger_57 : decode cX8_writePassenger 57 = .ok (.iconst 0, 1) := by decide +kernel
theorem dX8_writePassenger_58 : decode cX8_writePassenger 58 = .ok (.istore_n 2, 1) := by decide +kernel
theorem dX8_writePassenger_59 : decode cX8_writePassenger 59 = .ok (.iload_n 2, 1) := by decide +kernel
theorem dX8_writePassenger_60 : decode cX8_writePassenger 60 = .ok (.aload_n 0, 1) := by decide +kernel
theorem dX8_writePassenger_61 : decode cX8_writePassenger 61 = .ok (.getfield 12, 3) := by decide +kernel
theorem dX8_writePassenger_64 : decode cX8_writePassenger 64 = .ok (.getfield 247, 3) := by decide +kernel
theorem dX8_writePassenger_67 : decode cX8_writePassenger 67 = .ok (.getfield 262, 3) := by decide +kernel
theorem dX8_writePassenger_70 : decode cX8_writePassenger 70 = .ok (.if_icmp .ge 44, 3) := by decide +kernel
theorem dX8_writePassenger_73 : decode cX8_writePassenger 73 = .ok (.aload_n 0, 1) := by decide +kernel
theorem dX8_writePassenger_74 : decode cX8_writePassenger 74 = .ok (.getfield 12, 3) := by decide +kernel
theorem dX8_writePassenger_77 : decode cX8_writePassenger 77 = .ok (.getfield 247, 3) := by decide +kernel
theorem dX8_writePassenger_80 : decode cX8_writePassenger 80 = .ok (.getfield 266, 3) := by decide +kernel
theorem dX8_writePassenger_83 : decode cX8_writePassenger 83 = .ok (.iload_n 2, 1) := by decide +kernel
theorem dX8_writePassenger_84 : decode cX8_writePassenger 84 = .ok (.iaload, 1) := by decide +kernel
theorem dX8_writePassenger_85 : decode cX8_writePassenger 85 = .ok (.iload_n 1, 1) := by decide +kernel
theorem dX8_writePassenger_86 : decode cX8_writePassenger 86 = .ok (.if_icmp .ne 22, 3) := by decide +kernel
theorem dX8_writePassenger_89 : decode cX8_writePassenger 89 = .ok (.aload_n 0, 1) := by decide +kernel
theorem dX8_writePassenger_90 : decode cX8_writePassenger 90 = .ok (.getfield 46, 3) := by decide +kernel
theorem dX8_writePassenger_93 : decode cX8_writePassenger 93 = .ok (.bipush 115, 2) := by decide +kernel
theorem dX8_writePassenger_95 : decode cX8_writePassenger 95 = .ok (.invokevirtual 299, 3) := by decide +kernel
theorem dX8_writePassenger_98 : decode cX8_writePassenger 98 = .ok (.pop, 1) := by decide +kernel
theorem dX8_writePassenger_99 : decode cX8_writePassenger 99 = .ok (.aload_n 0, 1) := by decide +kernel
theorem dX8_writePassenger_100 : decode cX8_writePassenger 100 = .ok (.getfield 46, 3) := by decide +kernel
theorem dX8_writePassenger_103 : decode cX8_writePassenger 103 = .ok (.iload_n 2, 1) := by decide +kernel
theorem dX8_writePassenger_104 : decode cX8_writePassenger 104 = .ok (.invokevirtual 303, 3) := by decide +kernel
theorem dX8_writePassenger_107 : decode cX8_writePassenger 107 = .ok (.pop, 1) := by decide +kernel
theorem dX8_writePassenger_108 : decode cX8_writePassenger 108 = .ok (.iinc 2 1, 3) := by decide +kernel
theorem dX8_writePassenger_111 : decode cX8_writePassenger 111 = .ok (.goto (-52), 3) := by decide +kernel
theorem dX8_writePassenger_114 : decode cX8_writePassenger 114 = .ok (.aload_n 0, 1) := by decide +kernel
theorem dX8_writePassenger_115 : decode cX8_writePassenger 115 = .ok (.getfield 46, 3) := by decide +kernel
theorem dX8_writePassenger_118 : decode cX8_writePassenger 118 = .ok (.invokevirtual 306, 3) := by decide +kernel
theorem dX8_writePassenger_121 : decode cX8_writePassenger 121 = .ok (.ireturn, 1) := by decide +kernel
theorem dX8_writePlace_0 : decode cX8_writePlace 0 = .ok (.aload_n 0, 1) := by decide +kernel
theorem dX8_writePlace_1 : decode cX8_writePlace 1 = .ok (.getfield 12, 3) := by decide +kernel
theorem dX8_writePlace_4 : decode cX8_writePlace 4 = .ok (.getfield 171, 3) := by decide +kernel
theorem dX8_writePlace_7 : decode cX8_writePlace 7 = .ok (.getfield 224, 3) := by decide +kernel
theorem dX8_writePlace_10 : decode cX8_writePlace 10 = .ok (.iload_n 1, 1) := by decide +kernel
theorem dX8_writePlace_11 : decode cX8_writePlace 11 = .ok (.iaload, 1) := by decide +kernel
theorem dX8_writePlace_12 : decode cX8_writePlace 12 = .ok (.istore_n 2, 1) := by decide +kernel
theorem dX8_writePlace_13 : decode cX8_writePlace 13 = .ok (.iload_n 2, 1) := by decide +kernel
theorem dX8_writePlace_14 : decode cX8_writePlace 14 = .ok (.iconst (-1), 1) := by decide +kernel
theorem dX8_writePlace_15 : decode cX8_writePlace 15 = .ok (.if_icmp .ne 36, 3) := by decide +kernel
theorem dX8_writePlace_18 : decode cX8_writePlace 18 = .ok (.aload_n 0, 1) := by decide +kernel
theorem dX8_writePlace_19 : decode cX8_writePlace 19 = .ok (.getfield 46, 3) := by decide +kernel
theorem dX8_writePlace_22 : decode cX8_writePlace 22 = .ok (.bipush 64, 2) := by decide +kernel
theorem dX8_writePlace_24 : decode cX8_writePlace 24 = .ok (.invokevirtual 299, 3) := by decide +kernel
theorem dX8_writePlace_27 : decode cX8_writePlace 27 = .ok (.pop, 1) := by decide +kernel
theorem dX8_writePlace_28 : decode cX8_writePlace 28 = .ok (.aload_n 0, 1) := by decide +kernel
theorem dX8_writePlace_29 : decode cX8_writePlace 29 = .ok (.getfield 46, 3) := by decide +kernel
theorem dX8_writePlace_32 : decode cX8_writePlace 32 = .ok (.aload_n 0, 1) := by decide +kernel
theorem dX8_writePlace_33 : decode cX8_writePlace 33 = .ok (.getfield 12, 3) := by decide +kernel
theorem dX8_writePlace_36 : decode cX8_writePlace 36 = .ok (.getfield 171, 3) := by decide +kernel
theorem dX8_writePlace_39 : decode cX8_writePlace 39 = .ok (.getfield 221, 3) := by decide +kernel
theorem dX8_writePlace_42 : decode cX8_writePlace 42 = .ok (.iload_n 1, 1) := by decide +kernel
theorem dX8_writePlace_43 : decode cX8_writePlace 43 = .ok (.iaload, 1) := by decide +kernel
theorem dX8_writePlace_44 : decode cX8_writePlace 44 = .ok (.invokevirtual 303, 3) := by decide +kernel
theorem dX8_writePlace_47 : decode cX8_writePlace 47 = .ok (.pop, 1) := by decide +kernel
theorem dX8_writePlace_48 : decode cX8_writePlace 48 = .ok (.goto 22, 3) := by decide +kernel
theorem dX8_writePlace_51 : decode cX8_writePlace 51 = .ok (.aload_n 0, 1) := by decide +kernel
theorem dX8_writePlace_52 : decode cX8_writePlace 52 = .ok (.getfield 46, 3) := by decide +kernel
theorem dX8_writePlace_55 : decode cX8_writePlace 55 = .ok (.bipush 62, 2) := by decide +kernel
theorem dX8_writePlace_57 : decode cX8_writePlace 57 = .ok (.invokevirtual 299, 3) := by decide +kernel
theorem dX8_writePlace_60 : decode cX8_writePlace 60 = .ok (.pop, 1) := by decide +kernel
theorem dX8_writePlace_61 : decode cX8_writePlace 61 = .ok (.aload_n 0, 1) := by decide +kernel
theorem dX8_writePlace_62 : decode cX8_writePlace 62 = .ok (.getfield 46, 3) := by decide +kernel
theorem dX8_writePlace_65 : decode cX8_writePlace 65 = .ok (.iload_n 2, 1) := by decide +kernel
theorem dX8_writePlace_66 : decode cX8_writePlace 66 = .ok (.invokevirtual 303, 3) := by decide +kernel
theorem dX8_writePlace_69 : decode cX8_writePlace 69 = .ok (.pop, 1) := by decide +kernel
theorem dX8_writePlace_70 : decode cX8_writePlace 70 = .ok (.return_, 1) := by decide +kernel
theorem dX8_textAt_0 : decode cX8_textAt 0 = .ok (.iload_n 1, 1) := by decide +kernel
theorem dX8_textAt_1 : decode cX8_textAt 1 = .ok (.ifCond .lt 14, 3) := by decide +kernel
theorem dX8_textAt_4 : decode cX8_textAt 4 = .ok (.iload_n 1, 1) := by decide +kernel
theorem dX8_textAt_5 : decode cX8_textAt 5 = .ok (.aload_n 0, 1) := by decide +kernel
theorem dX8_textAt_6 : decode cX8_textAt 6 = .ok (.getfield 46, 3) := by decide +kernel
theorem dX8_textAt_9 : decode cX8_textAt 9 = .ok (.invokevirtual 306, 3) := by decide +kernel
theorem dX8_textAt_12 : decode cX8_textAt 12 = .ok (.if_icmp .lt 14, 3) := by decide +kernel
theorem dX8_textAt_15 : decode cX8_textAt 15 = .ok (.new 312, 3) := by decide +kernel
theorem dX8_textAt_18 : decode cX8_textAt 18 = .ok (.dup, 1) := by decide +kernel
theorem dX8_textAt_19 : decode cX8_textAt 19 = .ok (.ldc_w 314, 3) := by decide +kernel
theorem dX8_textAt_22 : decode cX8_textAt 22 = .ok (.invokespecial 316, 3) := by decide +kernel
theorem dX8_textAt_25 : decode cX8_textAt 25 = .ok (.athrow, 1) := by decide +kernel
theorem dX8_textAt_26 : decode cX8_textAt 26 = .ok (.aload_n 0, 1) := by decide +kernel
theorem dX8_textAt_27 : decode cX8_textAt 27 = .ok (.getfield 46, 3) := by decide +kernel
theorem dX8_textAt_30 : decode cX8_textAt 30 = .ok (.iload_n 1, 1) := by decide +kernel
theorem dX8_textAt_31 : decode cX8_textAt 31 = .ok (.invokevirtual 317, 3) := by decide +kernel
theorem dX8_textAt_34 : decode cX8_textAt 34 = .ok (.ireturn, 1) := by decide +kernel
theorem dX8_meanRides_0 : decode cX8_meanRides 0 = .ok (.aload_n 0, 1) := by decide +kernel
theorem dX8_meanRides_1 : decode cX8_meanRides 1 = .ok (.getfield 12, 3) := by decide +kernel
theorem dX8_meanRides_4 : decode cX8_meanRides 4 = .ok (.getfield 171, 3) := by decide +kernel
theorem dX8_meanRides_7 : decode cX8_meanRides 7 = .ok (.getfield 217, 3) := by decide +kernel
theorem dX8_meanRides_10 : decode cX8_meanRides 10 = .ok (.istore_n 1, 1) := by decide +kernel
theorem dX8_meanRides_11 : decode cX8_meanRides 11 = .ok (.iload_n 1, 1) := by decide +kernel
theorem dX8_meanRides_12 : decode cX8_meanRides 12 = .ok (.ifCond .ne 14, 3) := by decide +kernel
theorem dX8_meanRides_15 : decode cX8_meanRides 15 = .ok (.new 321, 3) := by decide +kernel
theorem dX8_meanRides_18 : decode cX8_meanRides 18 = .ok (.dup, 1) := by decide +kernel
theorem dX8_meanRides_19 : decode cX8_meanRides 19 = .ok (.ldc_w 323, 3) := by decide +kernel
theorem dX8_meanRides_22 : decode cX8_meanRides 22 = .ok (.invokespecial 325, 3) := by decide +kernel
theorem dX8_meanRides_25 : decode cX8_meanRides 25 = .ok (.athrow, 1) := by decide +kernel
theorem dX8_meanRides_26 : decode cX8_meanRides 26 = .ok (.iconst 0, 1) := by decide +kernel
theorem dX8_meanRides_27 : decode cX8_meanRides 27 = .ok (.istore_n 2, 1) := by decide +kernel
theorem dX8_meanRides_28 : decode cX8_meanRides 28 = .ok (.iconst 0, 1) := by decide +kernel
theorem dX8_meanRides_29 : decode cX8_meanRides 29 = .ok (.istore_n 3, 1) := by decide +kernel
theorem dX8_meanRides_30 : decode cX8_meanRides 30 = .ok (.iload_n 3, 1) := by decide +kernel
theorem dX8_meanRides_31 : decode cX8_meanRides 31 = .ok (.iload_n 1, 1) := by decide +kernel
theorem dX8_meanRides_32 : decode cX8_meanRides 32 = .ok (.if_icmp .ge 24, 3) := by decide +kernel
theorem dX8_meanRides_35 : decode cX8_meanRides 35 = .ok (.iload_n 2, 1) := by decide +kernel
theorem dX8_meanRides_36 : decode cX8_meanRides 36 = .ok (.aload_n 0, 1) := by decide +kernel
theorem dX8_meanRides_37 : decode cX8_meanRides 37 = .ok (.getfield 12, 3) := by decide +kernel
theorem dX8_meanRides_40 : decode cX8_meanRides 40 = .ok (.getfield 171, 3) := by decide +kernel
theorem dX8_meanRides_43 : decode cX8_meanRides 43 = .ok (.getfield 227, 3) := by decide +kernel
theorem dX8_meanRides_46 : decode cX8_meanRides 46 = .ok (.iload_n 3, 1) := by decide +kernel
theorem dX8_meanRides_47 : decode cX8_meanRides 47 = .ok (.iaload, 1) := by decide +kernel
theorem dX8_meanRides_48 : decode cX8_meanRides 48 = .ok (.iadd, 1) := by decide +kernel
theorem dX8_meanRides_49 : decode cX8_meanRides 49 = .ok (.istore_n 2, 1) := by decide +kernel
theorem dX8_meanRides_50 : decode cX8_meanRides 50 = .ok (.iinc 3 1, 3) := by decide +kernel
theorem dX8_meanRides_53 : decode cX8_meanRides 53 = .ok (.goto (-23), 3) := by decide +kernel
theorem dX8_meanRides_56 : decode cX8_meanRides 56 = .ok (.iload_n 2, 1) := by decide +kernel
theorem dX8_meanRides_57 : decode cX8_meanRides 57 = .ok (.i2d, 1) := by decide +kernel
theorem dX8_meanRides_58 : decode cX8_meanRides 58 = .ok (.iload_n 1, 1) := by decide +kernel
theorem dX8_meanRides_59 : decode cX8_meanRides 59 = .ok (.i2d, 1) := by decide +kernel
theorem dX8_meanRides_60 : decode cX8_meanRides 60 = .ok (.ddiv, 1) := by decide +kernel
theorem dX8_meanRides_61 : decode cX8_meanRides 61 = .ok (.dreturn, 1) := by decide +kernel
theorem dX8_truthShare_0 : decode cX8_truthShare 0 = .ok (.aload_n 0, 1) := by decide +kernel
theorem dX8_truthShare_1 : decode cX8_truthShare 1 = .ok (.getfield 12, 3) := by decide +kernel
theorem dX8_truthShare_4 : decode cX8_truthShare 4 = .ok (.getfield 247, 3) := by decide +kernel
theorem dX8_truthShare_7 : decode cX8_truthShare 7 = .ok (.getfield 262, 3) := by decide +kernel
theorem dX8_truthShare_10 : decode cX8_truthShare 10 = .ok (.istore_n 1, 1) := by decide +kernel
theorem dX8_truthShare_11 : decode cX8_truthShare 11 = .ok (.iload_n 1, 1) := by decide +kernel
theorem dX8_truthShare_12 : decode cX8_truthShare 12 = .ok (.ifCond .ne 14, 3) := by decide +kernel
theorem dX8_truthShare_15 : decode cX8_truthShare 15 = .ok (.new 321, 3) := by decide +kernel
theorem dX8_truthShare_18 : decode cX8_truthShare 18 = .ok (.dup, 1) := by decide +kernel
theorem dX8_truthShare_19 : decode cX8_truthShare 19 = .ok (.ldc_w 326, 3) := by decide +kernel
theorem dX8_truthShare_22 : decode cX8_truthShare 22 = .ok (.invokespecial 325, 3) := by decide +kernel
theorem dX8_truthShare_25 : decode cX8_truthShare 25 = .ok (.athrow, 1) := by decide +kernel
theorem dX8_truthShare_26 : decode cX8_truthShare 26 = .ok (.iconst 0, 1) := by decide +kernel
theorem dX8_truthShare_27 : decode cX8_truthShare 27 = .ok (.istore_n 2, 1) := by decide +kernel
theorem dX8_truthShare_28 : decode cX8_truthShare 28 = .ok (.iconst 0, 1) := by decide +kernel
theorem dX8_truthShare_29 : decode cX8_truthShare 29 = .ok (.istore_n 3, 1) := by decide +kernel
theorem dX8_truthShare_30 : decode cX8_truthShare 30 = .ok (.iload_n 3, 1) := by decide +kernel
theorem dX8_truthShare_31 : decode cX8_truthShare 31 = .ok (.iload_n 1, 1) := by decide +kernel
theorem dX8_truthShare_32 : decode cX8_truthShare 32 = .ok (.if_icmp .ge 26, 3) := by decide +kernel
theorem dX8_truthShare_35 : decode cX8_truthShare 35 = .ok (.aload_n 0, 1) := by decide +kernel
theorem dX8_truthShare_36 : decode cX8_truthShare 36 = .ok (.getfield 12, 3) := by decide +kernel
theorem dX8_truthShare_39 : decode cX8_truthShare 39 = .ok (.getfield 247, 3) := by decide +kernel
theorem dX8_truthShare_42 : decode cX8_truthShare 42 = .ok (.iload_n 3, 1) := by decide +kernel
theorem dX8_truthShare_43 : decode cX8_truthShare 43 = .ok (.invokevirtual 269, 3) := by decide +kernel
theorem dX8_truthShare_46 : decode cX8_truthShare 46 = .ok (.ifCond .eq 6, 3) := by decide +kernel
theorem dX8_truthShare_49 : decode cX8_truthShare 49 = .ok (.iinc 2 1, 3) := by decide +kernel
theorem dX8_truthShare_52 : decode cX8_truthShare 52 = .ok (.iinc 3 1, 3) := by decide +kernel
theorem dX8_truthShare_55 : decode cX8_truthShare 55 = .ok (.goto (-25), 3) := by decide +kernel
theorem dX8_truthShare_58 : decode cX8_truthShare 58 = .ok (.iload_n 2, 1) := by decide +kernel
theorem dX8_truthShare_59 : decode cX8_truthShare 59 = .ok (.i2f, 1) := by decide +kernel
theorem dX8_truthShare_60 : decode cX8_truthShare 60 = .ok (.iload_n 1, 1) := by decide +kernel
theorem dX8_truthShare_61 : decode cX8_truthShare 61 = .ok (.i2f, 1) := by decide +kernel
theorem dX8_truthShare_62 : decode cX8_truthShare 62 = .ok (.fdiv, 1) := by decide +kernel
theorem dX8_truthShare_63 : decode cX8_truthShare 63 = .ok (.freturn, 1) := by decide +kernel
theorem dX8_isConsistent_0 : decode cX8_isConsistent 0 = .ok (.aload_n 0, 1) := by decide +kernel
theorem dX8_isConsistent_1 : decode cX8_isConsistent 1 = .ok (.getfield 12, 3) := by decide +kernel
theorem dX8_isConsistent_4 : decode cX8_isConsistent 4 = .ok (.getfield 247, 3) := by decide +kernel
theorem dX8_isConsistent_7 : decode cX8_isConsistent 7 = .ok (.invokevirtual 328, 3) := by decide +kernel
theorem dX8_isConsistent_10 : decode cX8_isConsistent 10 = .ok (.ifCond .eq 24, 3) := by decide +kernel
theorem dX8_isConsistent_13 : decode cX8_isConsistent 13 = .ok (.aload_n 0, 1) := by decide +kernel
theorem dX8_isConsistent_14 : decode cX8_isConsistent 14 = .ok (.getfield 32, 3) := by decide +kernel
theorem dX8_isConsistent_17 : decode cX8_isConsistent 17 = .ok (.aload_n 0, 1) := by decide +kernel
theorem dX8_isConsistent_18 : decode cX8_isConsistent 18 = .ok (.getfield 12, 3) := by decide +kernel
theorem dX8_isConsistent_21 : decode cX8_isConsistent 21 = .ok (.getfield 73, 3) := by decide +kernel
theorem dX8_isConsistent_24 : decode cX8_isConsistent 24 = .ok (.invokevirtual 332, 3) := by decide +kernel
theorem dX8_isConsistent_27 : decode cX8_isConsistent 27 = .ok (.ifCond .eq 7, 3) := by decide +kernel
theorem dX8_isConsistent_30 : decode cX8_isConsistent 30 = .ok (.iconst 1, 1) := by decide +kernel
theorem dX8_isConsistent_31 : decode cX8_isConsistent 31 = .ok (.goto 4, 3) := by decide +kernel
theorem dX8_isConsistent_34 : decode cX8_isConsistent 34 = .ok (.iconst 0, 1) := by decide +kernel
theorem dX8_isConsistent_35 : decode cX8_isConsistent 35 = .ok (.ireturn, 1) := by decide +kernel
theorem dX8_type_0 : decode cX8_type 0 = .ok (.iload_n 1, 1) := by decide +kernel
theorem dX8_type_1 : decode cX8_type 1 = .ok (.bipush 32, 2) := by decide +kernel
theorem dX8_type_3 : decode cX8_type 3 = .ok (.if_icmp .lt 9, 3) := by decide +kernel
theorem dX8_type_6 : decode cX8_type 6 = .ok (.iload_n 1, 1) := by decide +kernel
theorem dX8_type_7 : decode cX8_type 7 = .ok (.bipush 126, 2) := by decide +kernel
theorem dX8_type_9 : decode cX8_type 9 = .ok (.if_icmp .le 14, 3) := by decide +kernel
theorem dX8_type_12 : decode cX8_type 12 = .ok (.new 233, 3) := by decide +kernel
theorem dX8_type_15 : decode cX8_type 15 = .ok (.dup, 1) := by decide +kernel
theorem dX8_type_16 : decode cX8_type 16 = .ok (.ldc_w 336, 3) := by decide +kernel
theorem dX8_type_19 : decode cX8_type 19 = .ok (.invokespecial 237, 3) := by decide +kernel
theorem dX8_type_22 : decode cX8_type 22 = .ok (.athrow, 1) := by decide +kernel
theorem dX8_type_23 : decode cX8_type 23 = .ok (.aload_n 0, 1) := by decide +kernel
theorem dX8_type_24 : decode cX8_type 24 = .ok (.getfield 39, 3) := by decide +kernel
theorem dX8_type_27 : decode cX8_type 27 = .ok (.getfield 338, 3) := by decide +kernel
theorem dX8_type_30 : decode cX8_type 30 = .ok (.bipush 60, 2) := by decide +kernel
theorem dX8_type_32 : decode cX8_type 32 = .ok (.if_icmp .lt 14, 3) := by decide +kernel
theorem dX8_type_35 : decode cX8_type 35 = .ok (.new 340, 3) := by decide +kernel
theorem dX8_type_38 : decode cX8_type 38 = .ok (.dup, 1) := by decide +kernel
theorem dX8_type_39 : decode cX8_type 39 = .ok (.ldc_w 342, 3) := by decide +kernel
theorem dX8_type_42 : decode cX8_type 42 = .ok (.invokespecial 344, 3) := by decide +kernel
theorem dX8_type_45 : decode cX8_type 45 = .ok (.athrow, 1) := by decide +kernel
theorem dX8_type_46 : decode cX8_type 46 = .ok (.aload_n 0, 1) := by decide +kernel
theorem dX8_type_47 : decode cX8_type 47 = .ok (.getfield 39, 3) := by decide +kernel
theorem dX8_type_50 : decode cX8_type 50 = .ok (.iload_n 1, 1) := by decide +kernel
theorem dX8_type_51 : decode cX8_type 51 = .ok (.invokevirtual 345, 3) := by decide +kernel
theorem dX8_type_54 : decode cX8_type 54 = .ok (.ireturn, 1) := by decide +kernel
theorem dX8_execute_0 : decode cX8_execute 0 = .ok (.aload_n 0, 1) := by decide +kernel
theorem dX8_execute_1 : decode cX8_execute 1 = .ok (.getfield 39, 3) := by decide +kernel
theorem dX8_execute_4 : decode cX8_execute 4 = .ok (.invokevirtual 348, 3) := by decide +kernel
theorem dX8_execute_7 : decode cX8_execute 7 = .ok (.istore_n 1, 1) := by decide +kernel
theorem dX8_execute_8 : decode cX8_execute 8 = .ok (.aload_n 0, 1) := by decide +kernel
theorem dX8_execute_9 : decode cX8_execute 9 = .ok (.getfield 39, 3) := by decide +kernel
theorem dX8_execute_12 : decode cX8_execute 12 = .ok (.invokevirtual 351, 3) := by decide +kernel
theorem dX8_execute_15 : decode cX8_execute 15 = .ok (.iload_n 1, 1) := by decide +kernel
theorem dX8_execute_16 : decode cX8_execute 16 = .ok (.ifCond .ne 25, 3) := by decide +kernel
theorem dX8_execute_19 : decode cX8_execute 19 = .ok (.aload_n 0, 1) := by decide +kernel
theorem dX8_execute_20 : decode cX8_execute 20 = .ok (.aload_n 0, 1) := by decide +kernel
theorem dX8_execute_21 : decode cX8_execute 21 = .ok (.getfield 39, 3) := by decide +kernel
theorem dX8_execute_24 : decode cX8_execute 24 = .ok (.getfield 354, 3) := by decide +kernel
theorem dX8_execute_27 : decode cX8_execute 27 = .ok (.putfield 54, 3) := by decide +kernel
theorem dX8_execute_30 : decode cX8_execute 30 = .ok (.new 233, 3) := by decide +kernel
theorem dX8_execute_33 : decode cX8_execute 33 = .ok (.dup, 1) := by decide +kernel
theorem dX8_execute_34 : decode cX8_execute 34 = .ok (.ldc_w 357, 3) := by decide +kernel
theorem dX8_execute_37 : decode cX8_execute 37 = .ok (.invokespecial 237, 3) := by decide +kernel
theorem dX8_execute_40 : decode cX8_execute 40 = .ok (.athrow, 1) := by decide +kernel
theorem dX8_execute_41 : decode cX8_execute 41 = .ok (.aload_n 0, 1) := by decide +kernel
theorem dX8_execute_42 : decode cX8_execute 42 = .ok (.getfield 16, 3) := by decide +kernel
theorem dX8_execute_45 : decode cX8_execute 45 = .ok (.aload_n 0, 1) := by decide +kernel
theorem dX8_execute_46 : decode cX8_execute 46 = .ok (.getfield 12, 3) := by decide +kernel
theorem dX8_execute_49 : decode cX8_execute 49 = .ok (.invokevirtual 359, 3) := by decide +kernel
theorem dX8_execute_52 : decode cX8_execute 52 = .ok (.aload_n 0, 1) := by decide +kernel
theorem dX8_execute_53 : decode cX8_execute 53 = .ok (.invokevirtual 362, 3) := by decide +kernel
theorem dX8_execute_56 : decode cX8_execute 56 = .ok (.istore_n 2, 1) := by decide +kernel
theorem dX8_execute_57 : decode cX8_execute 57 = .ok (.iload_n 2, 1) := by decide +kernel
theorem dX8_execute_58 : decode cX8_execute 58 = .ok (.iconst (-1), 1) := by decide +kernel
theorem dX8_execute_59 : decode cX8_execute 59 = .ok (.if_icmp .eq 30, 3) := by decide +kernel
theorem dX8_execute_62 : decode cX8_execute 62 = .ok (.aload_n 0, 1) := by decide +kernel
theorem dX8_execute_63 : decode cX8_execute 63 = .ok (.getfield 12, 3) := by decide +kernel
theorem dX8_execute_66 : decode cX8_execute 66 = .ok (.aload_n 0, 1) := by decide +kernel
theorem dX8_execute_67 : decode cX8_execute 67 = .ok (.getfield 16, 3) := by decide +kernel
theorem dX8_execute_70 : decode cX8_execute 70 = .ok (.invokevirtual 359, 3) := by decide +kernel
theorem dX8_execute_73 : decode cX8_execute 73 = .ok (.aload_n 0, 1) := by decide +kernel
theorem dX8_execute_74 : decode cX8_execute 74 = .ok (.iload_n 2, 1) := by decide +kernel
theorem dX8_execute_75 : decode cX8_execute 75 = .ok (.putfield 58, 3) := by decide +kernel
theorem dX8_execute_78 : decode cX8_execute 78 = .ok (.new 340, 3) := by decide +kernel
theorem dX8_execute_81 : decode cX8_execute 81 = .ok (.dup, 1) := by decide +kernel
theorem dX8_execute_82 : decode cX8_execute 82 = .ok (.ldc_w 365, 3) := by decide +kernel
theorem dX8_execute_85 : decode cX8_execute 85 = .ok (.invokespecial 344, 3) := by decide +kernel
theorem dX8_execute_88 : decode cX8_execute 88 = .ok (.athrow, 1) := by decide +kernel
theorem dX8_execute_89 : decode cX8_execute 89 = .ok (.aload_n 0, 1) := by decide +kernel
theorem dX8_execute_90 : decode cX8_execute 90 = .ok (.getfield 25, 3) := by decide +kernel
theorem dX8_execute_93 : decode cX8_execute 93 = .ok (.aload_n 0, 1) := by decide +kernel
theorem dX8_execute_94 : decode cX8_execute 94 = .ok (.getfield 16, 3) := by decide +kernel
theorem dX8_execute_97 : decode cX8_execute 97 = .ok (.invokevirtual 69, 3) := by decide +kernel
theorem dX8_execute_100 : decode cX8_execute 100 = .ok (.aload_n 0, 1) := by decide +kernel
theorem dX8_execute_101 : decode cX8_execute 101 = .ok (.getfield 39, 3) := by decide +kernel
theorem dX8_execute_104 : decode cX8_execute 104 = .ok (.getfield 367, 3) := by decide +kernel
theorem dX8_execute_107 : decode cX8_execute 107 = .ok (.ireturn, 1) := by decide +kernel
theorem dX8_errorPosition_0 : decode cX8_errorPosition 0 = .ok (.aload_n 0, 1) := by decide +kernel
theorem dX8_errorPosition_1 : decode cX8_errorPosition 1 = .ok (.getfield 54, 3) := by decide +kernel
theorem dX8_errorPosition_4 : decode cX8_errorPosition 4 = .ok (.invokestatic 185, 3) := by decide +kernel
theorem dX8_errorPosition_7 : decode cX8_errorPosition 7 = .ok (.ireturn, 1) := by decide +kernel
theorem dX8_failedCommand_0 : decode cX8_failedCommand 0 = .ok (.aload_n 0, 1) := by decide +kernel
theorem dX8_failedCommand_1 : decode cX8_failedCommand 1 = .ok (.getfield 58, 3) := by decide +kernel
theorem dX8_failedCommand_4 : decode cX8_failedCommand 4 = .ok (.invokestatic 185, 3) := by decide +kernel
theorem dX8_failedCommand_7 : decode cX8_failedCommand 7 = .ok (.ireturn, 1) := by decide +kernel
theorem dX8_undo_0 : decode cX8_undo 0 = .ok (.aload_n 0, 1) := by decide +kernel
theorem dX8_undo_1 : decode cX8_undo 1 = .ok (.getfield 25, 3) := by decide +kernel
theorem dX8_undo_4 : decode cX8_undo 4 = .ok (.getfield 368, 3) := by decide +kernel
theorem dX8_undo_7 : decode cX8_undo 7 = .ok (.ifCond .ne 14, 3) := by decide +kernel
theorem dX8_undo_10 : decode cX8_undo 10 = .ok (.new 340, 3) := by decide +kernel
theorem dX8_undo_13 : decode cX8_undo 13 = .ok (.dup, 1) := by decide +kernel
theorem dX8_undo_14 : decode cX8_undo 14 = .ok (.ldc_w 369, 3) := by decide +kernel
theorem dX8_undo_17 : decode cX8_undo 17 = .ok (.invokespecial 344, 3) := by decide +kernel
theorem dX8_undo_20 : decode cX8_undo 20 = .ok (.athrow, 1) := by decide +kernel
theorem dX8_undo_21 : decode cX8_undo 21 = .ok (.aload_n 0, 1) := by decide +kernel
theorem dX8_undo_22 : decode cX8_undo 22 = .ok (.getfield 25, 3) := by decide +kernel
theorem dX8_undo_25 : decode cX8_undo 25 = .ok (.aload_n 0, 1) := by decide +kernel
theorem dX8_undo_26 : decode cX8_undo 26 = .ok (.getfield 12, 3) := by decide +kernel
theorem dX8_undo_29 : decode cX8_undo 29 = .ok (.invokevirtual 371, 3) := by decide +kernel
theorem dX8_undo_32 : decode cX8_undo 32 = .ok (.aload_n 0, 1) := by decide +kernel
theorem dX8_undo_33 : decode cX8_undo 33 = .ok (.getfield 25, 3) := by decide +kernel
theorem dX8_undo_36 : decode cX8_undo 36 = .ok (.getfield 368, 3) := by decide +kernel
theorem dX8_undo_39 : decode cX8_undo 39 = .ok (.ireturn, 1) := by decide +kernel
theorem dX8_save_0 : decode cX8_save 0 = .ok (.aload_n 0, 1) := by decide +kernel
theorem dX8_save_1 : decode cX8_save 1 = .ok (.getfield 19, 3) := by decide +kernel
theorem dX8_save_4 : decode cX8_save 4 = .ok (.aload_n 0, 1) := by decide +kernel
theorem dX8_save_5 : decode cX8_save 5 = .ok (.getfield 12, 3) := by decide +kernel
theorem dX8_save_8 : decode cX8_save 8 = .ok (.invokevirtual 359, 3) := by decide +kernel
theorem dX8_save_11 : decode cX8_save 11 = .ok (.aload_n 0, 1) := by decide +kernel
theorem dX8_save_12 : decode cX8_save 12 = .ok (.iconst 1, 1) := by decide +kernel
theorem dX8_save_13 : decode cX8_save 13 = .ok (.putfield 50, 3) := by decide +kernel
theorem dX8_save_16 : decode cX8_save 16 = .ok (.aload_n 0, 1) := by decide +kernel
theorem dX8_save_17 : decode cX8_save 17 = .ok (.getfield 12, 3) := by decide +kernel
theorem dX8_save_20 : decode cX8_save 20 = .ok (.getfield 171, 3) := by decide +kernel
theorem dX8_save_23 : decode cX8_save 23 = .ok (.getfield 217, 3) := by decide +kernel
theorem dX8_save_26 : decode cX8_save 26 = .ok (.ireturn, 1) := by decide +kernel
theorem dX8_restore_0 : decode cX8_restore 0 = .ok (.aload_n 0, 1) := by decide +kernel
theorem dX8_restore_1 : decode cX8_restore 1 = .ok (.getfield 50, 3) := by decide +kernel
theorem dX8_restore_4 : decode cX8_restore 4 = .ok (.ifCond .ne 14, 3) := by decide +kernel
theorem dX8_restore_7 : decode cX8_restore 7 = .ok (.new 340, 3) := by decide +kernel
theorem dX8_restore_10 : decode cX8_restore 10 = .ok (.dup, 1) := by decide +kernel
theorem dX8_restore_11 : decode cX8_restore 11 = .ok (.ldc_w 374, 3) := by decide +kernel
theorem dX8_restore_14 : decode cX8_restore 14 = .ok (.invokespecial 344, 3) := by decide +kernel
theorem dX8_restore_17 : decode cX8_restore 17 = .ok (.athrow, 1) := by decide +kernel
theorem dX8_restore_18 : decode cX8_restore 18 = .ok (.aload_n 0, 1) := by decide +kernel
theorem dX8_restore_19 : decode cX8_restore 19 = .ok (.getfield 12, 3) := by decide +kernel
theorem dX8_restore_22 : decode cX8_restore 22 = .ok (.aload_n 0, 1) := by decide +kernel
theorem dX8_restore_23 : decode cX8_restore 23 = .ok (.getfield 19, 3) := by decide +kernel
theorem dX8_restore_26 : decode cX8_restore 26 = .ok (.invokevirtual 359, 3) := by decide +kernel
theorem dX8_restore_29 : decode cX8_restore 29 = .ok (.aload_n 0, 1) := by decide +kernel
theorem dX8_restore_30 : decode cX8_restore 30 = .ok (.getfield 25, 3) := by decide +kernel
theorem dX8_restore_33 : decode cX8_restore 33 = .ok (.invokevirtual 376, 3) := by decide +kernel
theorem dX8_restore_36 : decode cX8_restore 36 = .ok (.aload_n 0, 1) := by decide +kernel
theorem dX8_restore_37 : decode cX8_restore 37 = .ok (.getfield 12, 3) := by decide +kernel
theorem dX8_restore_40 : decode cX8_restore 40 = .ok (.getfield 171, 3) := by decide +kernel
theorem dX8_restore_43 : decode cX8_restore 43 = .ok (.getfield 217, 3) := by decide +kernel
theorem dX8_restore_46 : decode cX8_restore 46 = .ok (.ireturn, 1) := by decide +kernel
theorem dX8_firstFailing_0 : decode cX8_firstFailing 0 = .ok (.iconst 0, 1) := by decide +kernel
theorem dX8_firstFailing_1 : decode cX8_firstFailing 1 = .ok (.istore_n 1, 1) := by decide +kernel
theorem dX8_firstFailing_2 : decode cX8_firstFailing 2 = .ok (.iload_n 1, 1) := by decide +kernel
theorem dX8_firstFailing_3 : decode cX8_firstFailing 3 = .ok (.aload_n 0, 1) := by decide +kernel
theorem dX8_firstFailing_4 : decode cX8_firstFailing 4 = .ok (.getfield 39, 3) := by decide +kernel
theorem dX8_firstFailing_7 : decode cX8_firstFailing 7 = .ok (.getfield 367, 3) := by decide +kernel
theorem dX8_firstFailing_10 : decode cX8_firstFailing 10 = .ok (.if_icmp .ge 39, 3) := by decide +kernel
theorem dX8_firstFailing_13 : decode cX8_firstFailing 13 = .ok (.aload_n 0, 1) := by decide +kernel
theorem dX8_firstFailing_14 : decode cX8_firstFailing 14 = .ok (.getfield 12, 3) := by decide +kernel
theorem dX8_firstFailing_17 : decode cX8_firstFailing 17 = .ok (.aload_n 0, 1) := by decide +kernel
theorem dX8_firstFailing_18 : decode cX8_firstFailing 18 = .ok (.getfield 39, 3) := by decide +kernel
theorem dX8_firstFailing_21 : decode cX8_firstFailing 21 = .ok (.getfield 379, 3) := by decide +kernel
theorem dX8_firstFailing_24 : decode cX8_firstFailing 24 = .ok (.iload_n 1, 1) := by decide +kernel
theorem dX8_firstFailing_25 : decode cX8_firstFailing 25 = .ok (.iaload, 1) := by decide +kernel
theorem dX8_firstFailing_26 : decode cX8_firstFailing 26 = .ok (.aload_n 0, 1) := by decide +kernel
theorem dX8_firstFailing_27 : decode cX8_firstFailing 27 = .ok (.getfield 39, 3) := by decide +kernel
theorem dX8_firstFailing_30 : decode cX8_firstFailing 30 = .ok (.getfield 382, 3) := by decide +kernel
theorem dX8_firstFailing_33 : decode cX8_firstFailing 33 = .ok (.iload_n 1, 1) := by decide +kernel
theorem dX8_firstFailing_34 : decode cX8_firstFailing 34 = .ok (.aaload, 1) := by decide +kernel
theorem dX8_firstFailing_35 : decode cX8_firstFailing 35 = .ok (.invokevirtual 385, 3) := by decide +kernel
theorem dX8_firstFailing_38 : decode cX8_firstFailing 38 = .ok (.ifCond .ne 5, 3) := by decide +kernel
theorem dX8_firstFailing_41 : decode cX8_firstFailing 41 = .ok (.iload_n 1, 1) := by decide +kernel
theorem dX8_firstFailing_42 : decode cX8_firstFailing 42 = .ok (.ireturn, 1) := by decide +kernel
theorem dX8_firstFailing_43 : decode cX8_firstFailing 43 = .ok (.iinc 1 1, 3) := by decide +kernel
theorem dX8_firstFailing_46 : decode cX8_firstFailing 46 = .ok (.goto (-44), 3) := by decide +kernel
theorem dX8_firstFailing_49 : decode cX8_firstFailing 49 = .ok (.iconst (-1), 1) := by decide +kernel
theorem dX8_firstFailing_50 : decode cX8_firstFailing 50 = .ok (.ireturn, 1) := by decide +kernel
theorem dX8_isZone_0 : decode cX8_isZone 0 = .ok (.iload_n 0, 1) := by decide +kernel
theorem dX8_isZone_1 : decode cX8_isZone 1 = .ok (.ifCond .lt 12, 3) := by decide +kernel
theorem dX8_isZone_4 : decode cX8_isZone 4 = .ok (.iload_n 0, 1) := by decide +kernel
theorem dX8_isZone_5 : decode cX8_isZone 5 = .ok (.iconst 4, 1) := by decide +kernel
theorem dX8_isZone_6 : decode cX8_isZone 6 = .ok (.if_icmp .ge 7, 3) := by decide +kernel
theorem dX8_isZone_9 : decode cX8_isZone 9 = .ok (.iconst 1, 1) := by decide +kernel
theorem dX8_isZone_10 : decode cX8_isZone 10 = .ok (.goto 4, 3) := by decide +kernel
theorem dX8_isZone_13 : decode cX8_isZone 13 = .ok (.iconst 0, 1) := by decide +kernel
theorem dX8_isZone_14 : decode cX8_isZone 14 = .ok (.ireturn, 1) := by decide +kernel
theorem dX8_refuse_0 : decode cX8_refuse 0 = .ok (.iload_n 0, 1) := by decide +kernel
theorem dX8_refuse_1 : decode cX8_refuse 1 = .ok (.tableswitch 90 1 5 #[35, 46, 57, 68, 79], 35) := by decide +kernel
theorem dX8_refuse_36 : decode cX8_refuse 36 = .ok (.new 312, 3) := by decide +kernel
theorem dX8_refuse_39 : decode cX8_refuse 39 = .ok (.dup, 1) := by decide +kernel
theorem dX8_refuse_40 : decode cX8_refuse 40 = .ok (.ldc_w 389, 3) := by decide +kernel
theorem dX8_refuse_43 : decode cX8_refuse 43 = .ok (.invokespecial 316, 3) := by decide +kernel
theorem dX8_refuse_46 : decode cX8_refuse 46 = .ok (.athrow, 1) := by decide +kernel
theorem dX8_refuse_47 : decode cX8_refuse 47 = .ok (.new 233, 3) := by decide +kernel
theorem dX8_refuse_50 : decode cX8_refuse 50 = .ok (.dup, 1) := by decide +kernel
theorem dX8_refuse_51 : decode cX8_refuse 51 = .ok (.ldc_w 391, 3) := by decide +kernel
theorem dX8_refuse_54 : decode cX8_refuse 54 = .ok (.invokespecial 237, 3) := by decide +kernel
theorem dX8_refuse_57 : decode cX8_refuse 57 = .ok (.athrow, 1) := by decide +kernel
theorem dX8_refuse_58 : decode cX8_refuse 58 = .ok (.new 340, 3) := by decide +kernel
theorem dX8_refuse_61 : decode cX8_refuse 61 = .ok (.dup, 1) := by decide +kernel
theorem dX8_refuse_62 : decode cX8_refuse 62 = .ok (.ldc_w 393, 3) := by decide +kernel
theorem dX8_refuse_65 : decode cX8_refuse 65 = .ok (.invokespecial 344, 3) := by decide +kernel
theorem dX8_refuse_68 : decode cX8_refuse 68 = .ok (.athrow, 1) := by decide +kernel
theorem dX8_refuse_69 : decode cX8_refuse 69 = .ok (.new 118, 3) := by decide +kernel
theorem dX8_refuse_72 : decode cX8_refuse 72 = .ok (.dup, 1) := by decide +kernel
theorem dX8_refuse_73 : decode cX8_refuse 73 = .ok (.ldc_w 395, 3) := by decide +kernel
theorem dX8_refuse_76 : decode cX8_refuse 76 = .ok (.invokespecial 122, 3) := by decide +kernel
theorem dX8_refuse_79 : decode cX8_refuse 79 = .ok (.athrow, 1) := by decide +kernel
theorem dX8_refuse_80 : decode cX8_refuse 80 = .ok (.new 397, 3) := by decide +kernel
theorem dX8_refuse_83 : decode cX8_refuse 83 = .ok (.dup, 1) := by decide +kernel
theorem dX8_refuse_84 : decode cX8_refuse 84 = .ok (.ldc_w 399, 3) := by decide +kernel
theorem dX8_refuse_87 : decode cX8_refuse 87 = .ok (.invokespecial 401, 3) := by decide +kernel
theorem dX8_refuse_90 : decode cX8_refuse 90 = .ok (.athrow, 1) := by decide +kernel
theorem dX8_refuse_91 : decode cX8_refuse 91 = .ok (.return_, 1) := by decide +kernel
theorem dX8_found_0 : decode cX8_found 0 = .ok (.iload_n 0, 1) := by decide +kernel
theorem dX8_found_1 : decode cX8_found 1 = .ok (.iconst (-1), 1) := by decide +kernel
theorem dX8_found_2 : decode cX8_found 2 = .ok (.if_icmp .ne 14, 3) := by decide +kernel
theorem dX8_found_5 : decode cX8_found 5 = .ok (.new 118, 3) := by decide +kernel
theorem dX8_found_8 : decode cX8_found 8 = .ok (.dup, 1) := by decide +kernel
theorem dX8_found_9 : decode cX8_found 9 = .ok (.ldc_w 402, 3) := by decide +kernel
theorem dX8_found_12 : decode cX8_found 12 = .ok (.invokespecial 122, 3) := by decide +kernel
theorem dX8_found_15 : decode cX8_found 15 = .ok (.athrow, 1) := by decide +kernel
theorem dX8_found_16 : decode cX8_found 16 = .ok (.iload_n 0, 1) := by decide +kernel
theorem dX8_found_17 : decode cX8_found 17 = .ok (.ireturn, 1) := by decide +kernel
theorem dX8_requireStop_0 : decode cX8_requireStop 0 = .ok (.aload_n 0, 1) := by decide +kernel
theorem dX8_requireStop_1 : decode cX8_requireStop 1 = .ok (.getfield 12, 3) := by decide +kernel
theorem dX8_requireStop_4 : decode cX8_requireStop 4 = .ok (.getfield 73, 3) := by decide +kernel
theorem dX8_requireStop_7 : decode cX8_requireStop 7 = .ok (.iload_n 1, 1) := by decide +kernel
theorem dX8_requireStop_8 : decode cX8_requireStop 8 = .ok (.invokevirtual 404, 3) := by decide +kernel
theorem dX8_requireStop_11 : decode cX8_requireStop 11 = .ok (.ifCond .ne 14, 3) := by decide +kernel
theorem dX8_requireStop_14 : decode cX8_requireStop 14 = .ok (.new 312, 3) := by decide +kernel
theorem dX8_requireStop_17 : decode cX8_requireStop 17 = .ok (.dup, 1) := by decide +kernel
theorem dX8_requireStop_18 : decode cX8_requireStop 18 = .ok (.ldc_w 407, 3) := by decide +kernel
theorem dX8_requireStop_21 : decode cX8_requireStop 21 = .ok (.invokespecial 316, 3) := by decide +kernel
theorem dX8_requireStop_24 : decode cX8_requireStop 24 = .ok (.athrow, 1) := by decide +kernel
theorem dX8_requireStop_25 : decode cX8_requireStop 25 = .ok (.return_, 1) := by decide +kernel
theorem dX8_requireLine_0 : decode cX8_requireLine 0 = .ok (.aload_n 0, 1) := by decide +kernel
theorem dX8_requireLine_1 : decode cX8_requireLine 1 = .ok (.getfield 12, 3) := by decide +kernel
theorem dX8_requireLine_4 : decode cX8_requireLine 4 = .ok (.getfield 73, 3) := by decide +kernel
theorem dX8_requireLine_7 : decode cX8_requireLine 7 = .ok (.iload_n 1, 1) := by decide +kernel
theorem dX8_requireLine_8 : decode cX8_requireLine 8 = .ok (.invokevirtual 409, 3) := by decide +kernel
theorem dX8_requireLine_11 : decode cX8_requireLine 11 = .ok (.ifCond .ne 14, 3) := by decide +kernel
theorem dX8_requireLine_14 : decode cX8_requireLine 14 = .ok (.new 312, 3) := by decide +kernel
theorem dX8_requireLine_17 : decode cX8_requireLine 17 = .ok (.dup, 1) := by decide +kernel
theorem dX8_requireLine_18 : decode cX8_requireLine 18 = .ok (.ldc_w 412, 3) := by decide +kernel
theorem dX8_requireLine_21 : decode cX8_requireLine 21 = .ok (.invokespecial 316, 3) := by decide +kernel
theorem dX8_requireLine_24 : decode cX8_requireLine 24 = .ok (.athrow, 1) := by decide +kernel
theorem dX8_requireLine_25 : decode cX8_requireLine 25 = .ok (.return_, 1) := by decide +kernel
theorem dX8_requireTram_0 : decode cX8_requireTram 0 = .ok (.aload_n 0, 1) := by decide +kernel
theorem dX8_requireTram_1 : decode cX8_requireTram 1 = .ok (.getfield 12, 3) := by decide +kernel
theorem dX8_requireTram_4 : decode cX8_requireTram 4 = .ok (.getfield 140, 3) := by decide +kernel
theorem dX8_requireTram_7 : decode cX8_requireTram 7 = .ok (.iload_n 1, 1) := by decide +kernel
theorem dX8_requireTram_8 : decode cX8_requireTram 8 = .ok (.invokevirtual 414, 3) := by decide +kernel
theorem dX8_requireTram_11 : decode cX8_requireTram 11 = .ok (.ifCond .ne 14, 3) := by decide +kernel
theorem dX8_requireTram_14 : decode cX8_requireTram 14 = .ok (.new 312, 3) := by decide +kernel
theorem dX8_requireTram_17 : decode cX8_requireTram 17 = .ok (.dup, 1) := by decide +kernel
theorem dX8_requireTram_18 : decode cX8_requireTram 18 = .ok (.ldc_w 417, 3) := by decide +kernel
theorem dX8_requireTram_21 : decode cX8_requireTram 21 = .ok (.invokespecial 316, 3) := by decide +kernel
theorem dX8_requireTram_24 : decode cX8_requireTram 24 = .ok (.athrow, 1) := by decide +kernel
theorem dX8_requireTram_25 : decode cX8_requireTram 25 = .ok (.return_, 1) := by decide +kernel
theorem dX8_requirePassenger_0 : decode cX8_requirePassenger 0 = .ok (.aload_n 0, 1) := by decide +kernel
theorem dX8_requirePassenger_1 : decode cX8_requirePassenger 1 = .ok (.getfield 12, 3) := by decide +kernel
theorem dX8_requirePassenger_4 : decode cX8_requirePassenger 4 = .ok (.getfield 171, 3) := by decide +kernel
theorem dX8_requirePassenger_7 : decode cX8_requirePassenger 7 = .ok (.iload_n 1, 1) := by decide +kernel
theorem dX8_requirePassenger_8 : decode cX8_requirePassenger 8 = .ok (.invokevirtual 419, 3) := by decide +kernel
theorem dX8_requirePassenger_11 : decode cX8_requirePassenger 11 = .ok (.ifCond .ne 14, 3) := by decide +kernel
theorem dX8_requirePassenger_14 : decode cX8_requirePassenger 14 = .ok (.new 312, 3) := by decide +kernel
theorem dX8_requirePassenger_17 : decode cX8_requirePassenger 17 = .ok (.dup, 1) := by decide +kernel
theorem dX8_requirePassenger_18 : decode cX8_requirePassenger 18 = .ok (.ldc_w 422, 3) := by decide +kernel
theorem dX8_requirePassenger_21 : decode cX8_requirePassenger 21 = .ok (.invokespecial 316, 3) := by decide +kernel
theorem dX8_requirePassenger_24 : decode cX8_requirePassenger 24 = .ok (.athrow, 1) := by decide +kernel
theorem dX8_requirePassenger_25 : decode cX8_requirePassenger 25 = .ok (.return_, 1) := by decide +kernel
theorem dX8_requireSecret_0 : decode cX8_requireSecret 0 = .ok (.aload_n 0, 1) := by decide +kernel
theorem dX8_requireSecret_1 : decode cX8_requireSecret 1 = .ok (.getfield 12, 3) := by decide +kernel
theorem dX8_requireSecret_4 : decode cX8_requireSecret 4 = .ok (.getfield 247, 3) := by decide +kernel
theorem dX8_requireSecret_7 : decode cX8_requireSecret 7 = .ok (.iload_n 1, 1) := by decide +kernel
theorem dX8_requireSecret_8 : decode cX8_requireSecret 8 = .ok (.invokevirtual 424, 3) := by decide +kernel
theorem dX8_requireSecret_11 : decode cX8_requireSecret 11 = .ok (.ifCond .ne 14, 3) := by decide +kernel
theorem dX8_requireSecret_14 : decode cX8_requireSecret 14 = .ok (.new 312, 3) := by decide +kernel
theorem dX8_requireSecret_17 : decode cX8_requireSecret 17 = .ok (.dup, 1) := by decide +kernel
theorem dX8_requireSecret_18 : decode cX8_requireSecret 18 = .ok (.ldc_w 427, 3) := by decide +kernel
theorem dX8_requireSecret_21 : decode cX8_requireSecret 21 = .ok (.invokespecial 316, 3) := by decide +kernel
theorem dX8_requireSecret_24 : decode cX8_requireSecret 24 = .ok (.athrow, 1) := by decide +kernel
theorem dX8_requireSecret_25 : decode cX8_requireSecret 25 = .ok (.return_, 1) := by decide +kernel
