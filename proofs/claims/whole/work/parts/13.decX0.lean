theorem dX0_init_0 : decode cX0_init 0 = .ok (.aload_n 0, 1) := by decide +kernel
theorem dX0_init_1 : decode cX0_init 1 = .ok (.invokespecial 3, 3) := by decide +kernel
theorem dX0_init_4 : decode cX0_init 4 = .ok (.aload_n 0, 1) := by decide +kernel
theorem dX0_init_5 : decode cX0_init 5 = .ok (.sipush 200, 3) := by decide +kernel
theorem dX0_init_8 : decode cX0_init 8 = .ok (.newarray .boolean, 2) := by decide +kernel
theorem dX0_init_10 : decode cX0_init 10 = .ok (.putfield 9, 3) := by decide +kernel
theorem dX0_init_13 : decode cX0_init 13 = .ok (.aload_n 0, 1) := by decide +kernel
theorem dX0_init_14 : decode cX0_init 14 = .ok (.sipush 200, 3) := by decide +kernel
theorem dX0_init_17 : decode cX0_init 17 = .ok (.newarray .long, 2) := by decide +kernel
theorem dX0_init_19 : decode cX0_init 19 = .ok (.putfield 15, 3) := by decide +kernel
theorem dX0_init_22 : decode cX0_init 22 = .ok (.aload_n 0, 1) := by decide +kernel
theorem dX0_init_23 : decode cX0_init 23 = .ok (.sipush 8000, 3) := by decide +kernel
theorem dX0_init_26 : decode cX0_init 26 = .ok (.newarray .byte, 2) := by decide +kernel
theorem dX0_init_28 : decode cX0_init 28 = .ok (.putfield 19, 3) := by decide +kernel
theorem dX0_init_31 : decode cX0_init 31 = .ok (.return_, 1) := by decide +kernel
theorem dX0_begin_0 : decode cX0_begin 0 = .ok (.aload_n 0, 1) := by decide +kernel
theorem dX0_begin_1 : decode cX0_begin 1 = .ok (.iload_n 1, 1) := by decide +kernel
theorem dX0_begin_2 : decode cX0_begin 2 = .ok (.putfield 23, 3) := by decide +kernel
theorem dX0_begin_5 : decode cX0_begin 5 = .ok (.aload_n 0, 1) := by decide +kernel
theorem dX0_begin_6 : decode cX0_begin 6 = .ok (.iload_n 2, 1) := by decide +kernel
theorem dX0_begin_7 : decode cX0_begin 7 = .ok (.putfield 27, 3) := by decide +kernel
theorem dX0_begin_10 : decode cX0_begin 10 = .ok (.aload_n 0, 1) := by decide +kernel
theorem dX0_begin_11 : decode cX0_begin 11 = .ok (.iconst 0, 1) := by decide +kernel
theorem dX0_begin_12 : decode cX0_begin 12 = .ok (.putfield 31, 3) := by decide +kernel
theorem dX0_begin_15 : decode cX0_begin 15 = .ok (.return_, 1) := by decide +kernel
theorem dX0_holds_0 : decode cX0_holds 0 = .ok (.iload_n 1, 1) := by decide +kernel
theorem dX0_holds_1 : decode cX0_holds 1 = .ok (.ifCond .lt 22, 3) := by decide +kernel
theorem dX0_holds_4 : decode cX0_holds 4 = .ok (.iload_n 1, 1) := by decide +kernel
theorem dX0_holds_5 : decode cX0_holds 5 = .ok (.aload_n 0, 1) := by decide +kernel
theorem dX0_holds_6 : decode cX0_holds 6 = .ok (.getfield 31, 3) := by decide +kernel
theorem dX0_holds_9 : decode cX0_holds 9 = .ok (.if_icmp .ge 14, 3) := by decide +kernel
theorem dX0_holds_12 : decode cX0_holds 12 = .ok (.iload_n 1, 1) := by decide +kernel
theorem dX0_holds_13 : decode cX0_holds 13 = .ok (.sipush 200, 3) := by decide +kernel
theorem dX0_holds_16 : decode cX0_holds 16 = .ok (.if_icmp .ge 7, 3) := by decide +kernel
theorem dX0_holds_19 : decode cX0_holds 19 = .ok (.iconst 1, 1) := by decide +kernel
theorem dX0_holds_20 : decode cX0_holds 20 = .ok (.goto 4, 3) := by decide +kernel
theorem dX0_holds_23 : decode cX0_holds 23 = .ok (.iconst 0, 1) := by decide +kernel
theorem dX0_holds_24 : decode cX0_holds 24 = .ok (.ireturn, 1) := by decide +kernel
theorem dX0_isThere_0 : decode cX0_isThere 0 = .ok (.iload_n 1, 1) := by decide +kernel
theorem dX0_isThere_1 : decode cX0_isThere 1 = .ok (.ifCond .lt 23, 3) := by decide +kernel
theorem dX0_isThere_4 : decode cX0_isThere 4 = .ok (.iload_n 1, 1) := by decide +kernel
theorem dX0_isThere_5 : decode cX0_isThere 5 = .ok (.sipush 200, 3) := by decide +kernel
theorem dX0_isThere_8 : decode cX0_isThere 8 = .ok (.if_icmp .ge 16, 3) := by decide +kernel
theorem dX0_isThere_11 : decode cX0_isThere 11 = .ok (.aload_n 0, 1) := by decide +kernel
theorem dX0_isThere_12 : decode cX0_isThere 12 = .ok (.getfield 9, 3) := by decide +kernel
theorem dX0_isThere_15 : decode cX0_isThere 15 = .ok (.iload_n 1, 1) := by decide +kernel
theorem dX0_isThere_16 : decode cX0_isThere 16 = .ok (.baload, 1) := by decide +kernel
theorem dX0_isThere_17 : decode cX0_isThere 17 = .ok (.ifCond .eq 7, 3) := by decide +kernel
theorem dX0_isThere_20 : decode cX0_isThere 20 = .ok (.iconst 1, 1) := by decide +kernel
theorem dX0_isThere_21 : decode cX0_isThere 21 = .ok (.goto 4, 3) := by decide +kernel
theorem dX0_isThere_24 : decode cX0_isThere 24 = .ok (.iconst 0, 1) := by decide +kernel
theorem dX0_isThere_25 : decode cX0_isThere 25 = .ok (.ireturn, 1) := by decide +kernel
theorem dX0_numberAt_0 : decode cX0_numberAt 0 = .ok (.iload_n 1, 1) := by decide +kernel
theorem dX0_numberAt_1 : decode cX0_numberAt 1 = .ok (.ifCond .lt 19, 3) := by decide +kernel
theorem dX0_numberAt_4 : decode cX0_numberAt 4 = .ok (.iload_n 1, 1) := by decide +kernel
theorem dX0_numberAt_5 : decode cX0_numberAt 5 = .ok (.sipush 200, 3) := by decide +kernel
theorem dX0_numberAt_8 : decode cX0_numberAt 8 = .ok (.if_icmp .ge 12, 3) := by decide +kernel
theorem dX0_numberAt_11 : decode cX0_numberAt 11 = .ok (.aload_n 0, 1) := by decide +kernel
theorem dX0_numberAt_12 : decode cX0_numberAt 12 = .ok (.getfield 15, 3) := by decide +kernel
theorem dX0_numberAt_15 : decode cX0_numberAt 15 = .ok (.iload_n 1, 1) := by decide +kernel
theorem dX0_numberAt_16 : decode cX0_numberAt 16 = .ok (.laload, 1) := by decide +kernel
theorem dX0_numberAt_17 : decode cX0_numberAt 17 = .ok (.goto 4, 3) := by decide +kernel
theorem dX0_numberAt_20 : decode cX0_numberAt 20 = .ok (.lconst 0, 1) := by decide +kernel
theorem dX0_numberAt_21 : decode cX0_numberAt 21 = .ok (.lreturn, 1) := by decide +kernel
theorem dX0_letterAt_0 : decode cX0_letterAt 0 = .ok (.iload_n 1, 1) := by decide +kernel
theorem dX0_letterAt_1 : decode cX0_letterAt 1 = .ok (.ifCond .lt 20, 3) := by decide +kernel
theorem dX0_letterAt_4 : decode cX0_letterAt 4 = .ok (.iload_n 1, 1) := by decide +kernel
theorem dX0_letterAt_5 : decode cX0_letterAt 5 = .ok (.sipush 200, 3) := by decide +kernel
theorem dX0_letterAt_8 : decode cX0_letterAt 8 = .ok (.if_icmp .ge 13, 3) := by decide +kernel
theorem dX0_letterAt_11 : decode cX0_letterAt 11 = .ok (.iload_n 2, 1) := by decide +kernel
theorem dX0_letterAt_12 : decode cX0_letterAt 12 = .ok (.ifCond .lt 9, 3) := by decide +kernel
theorem dX0_letterAt_15 : decode cX0_letterAt 15 = .ok (.iload_n 2, 1) := by decide +kernel
theorem dX0_letterAt_16 : decode cX0_letterAt 16 = .ok (.bipush 40, 2) := by decide +kernel
theorem dX0_letterAt_18 : decode cX0_letterAt 18 = .ok (.if_icmp .lt 5, 3) := by decide +kernel
theorem dX0_letterAt_21 : decode cX0_letterAt 21 = .ok (.iconst 0, 1) := by decide +kernel
theorem dX0_letterAt_22 : decode cX0_letterAt 22 = .ok (.ireturn, 1) := by decide +kernel
theorem dX0_letterAt_23 : decode cX0_letterAt 23 = .ok (.aload_n 0, 1) := by decide +kernel
theorem dX0_letterAt_24 : decode cX0_letterAt 24 = .ok (.getfield 19, 3) := by decide +kernel
theorem dX0_letterAt_27 : decode cX0_letterAt 27 = .ok (.iload_n 1, 1) := by decide +kernel
theorem dX0_letterAt_28 : decode cX0_letterAt 28 = .ok (.bipush 40, 2) := by decide +kernel
theorem dX0_letterAt_30 : decode cX0_letterAt 30 = .ok (.imul, 1) := by decide +kernel
theorem dX0_letterAt_31 : decode cX0_letterAt 31 = .ok (.iload_n 2, 1) := by decide +kernel
theorem dX0_letterAt_32 : decode cX0_letterAt 32 = .ok (.iadd, 1) := by decide +kernel
theorem dX0_letterAt_33 : decode cX0_letterAt 33 = .ok (.baload, 1) := by decide +kernel
theorem dX0_letterAt_34 : decode cX0_letterAt 34 = .ok (.sipush 255, 3) := by decide +kernel
theorem dX0_letterAt_37 : decode cX0_letterAt 37 = .ok (.iand, 1) := by decide +kernel
theorem dX0_letterAt_38 : decode cX0_letterAt 38 = .ok (.ireturn, 1) := by decide +kernel
theorem dX0_pushNumber_0 : decode cX0_pushNumber 0 = .ok (.aload_n 0, 1) := by decide +kernel
theorem dX0_pushNumber_1 : decode cX0_pushNumber 1 = .ok (.getfield 31, 3) := by decide +kernel
theorem dX0_pushNumber_4 : decode cX0_pushNumber 4 = .ok (.ifCond .lt 13, 3) := by decide +kernel
theorem dX0_pushNumber_7 : decode cX0_pushNumber 7 = .ok (.aload_n 0, 1) := by decide +kernel
theorem dX0_pushNumber_8 : decode cX0_pushNumber 8 = .ok (.getfield 31, 3) := by decide +kernel
theorem dX0_pushNumber_11 : decode cX0_pushNumber 11 = .ok (.sipush 200, 3) := by decide +kernel
theorem dX0_pushNumber_14 : decode cX0_pushNumber 14 = .ok (.if_icmp .lt 4, 3) := by decide +kernel
theorem dX0_pushNumber_17 : decode cX0_pushNumber 17 = .ok (.return_, 1) := by decide +kernel
theorem dX0_pushNumber_18 : decode cX0_pushNumber 18 = .ok (.aload_n 0, 1) := by decide +kernel
theorem dX0_pushNumber_19 : decode cX0_pushNumber 19 = .ok (.getfield 9, 3) := by decide +kernel
theorem dX0_pushNumber_22 : decode cX0_pushNumber 22 = .ok (.aload_n 0, 1) := by decide +kernel
theorem dX0_pushNumber_23 : decode cX0_pushNumber 23 = .ok (.getfield 31, 3) := by decide +kernel
theorem dX0_pushNumber_26 : decode cX0_pushNumber 26 = .ok (.iconst 1, 1) := by decide +kernel
theorem dX0_pushNumber_27 : decode cX0_pushNumber 27 = .ok (.bastore, 1) := by decide +kernel
theorem dX0_pushNumber_28 : decode cX0_pushNumber 28 = .ok (.aload_n 0, 1) := by decide +kernel
theorem dX0_pushNumber_29 : decode cX0_pushNumber 29 = .ok (.getfield 15, 3) := by decide +kernel
theorem dX0_pushNumber_32 : decode cX0_pushNumber 32 = .ok (.aload_n 0, 1) := by decide +kernel
theorem dX0_pushNumber_33 : decode cX0_pushNumber 33 = .ok (.getfield 31, 3) := by decide +kernel
theorem dX0_pushNumber_36 : decode cX0_pushNumber 36 = .ok (.aload_n 0, 1) := by decide +kernel
theorem dX0_pushNumber_37 : decode cX0_pushNumber 37 = .ok (.getfield 23, 3) := by decide +kernel
theorem dX0_pushNumber_40 : decode cX0_pushNumber 40 = .ok (.ifCond .ne 9, 3) := by decide +kernel
theorem dX0_pushNumber_43 : decode cX0_pushNumber 43 = .ok (.lload_n 1, 1) := by decide +kernel
theorem dX0_pushNumber_44 : decode cX0_pushNumber 44 = .ok (.l2i, 1) := by decide +kernel
theorem dX0_pushNumber_45 : decode cX0_pushNumber 45 = .ok (.i2l, 1) := by decide +kernel
theorem dX0_pushNumber_46 : decode cX0_pushNumber 46 = .ok (.goto 27, 3) := by decide +kernel
theorem dX0_pushNumber_49 : decode cX0_pushNumber 49 = .ok (.aload_n 0, 1) := by decide +kernel
theorem dX0_pushNumber_50 : decode cX0_pushNumber 50 = .ok (.getfield 23, 3) := by decide +kernel
theorem dX0_pushNumber_53 : decode cX0_pushNumber 53 = .ok (.iconst 3, 1) := by decide +kernel
theorem dX0_pushNumber_54 : decode cX0_pushNumber 54 = .ok (.if_icmp .ne 18, 3) := by decide +kernel
theorem dX0_pushNumber_57 : decode cX0_pushNumber 57 = .ok (.lload_n 1, 1) := by decide +kernel
theorem dX0_pushNumber_58 : decode cX0_pushNumber 58 = .ok (.lconst 0, 1) := by decide +kernel
theorem dX0_pushNumber_59 : decode cX0_pushNumber 59 = .ok (.lcmp, 1) := by decide +kernel
theorem dX0_pushNumber_60 : decode cX0_pushNumber 60 = .ok (.ifCond .eq 7, 3) := by decide +kernel
theorem dX0_pushNumber_63 : decode cX0_pushNumber 63 = .ok (.iconst 1, 1) := by decide +kernel
theorem dX0_pushNumber_64 : decode cX0_pushNumber 64 = .ok (.goto 4, 3) := by decide +kernel
theorem dX0_pushNumber_67 : decode cX0_pushNumber 67 = .ok (.iconst 0, 1) := by decide +kernel
theorem dX0_pushNumber_68 : decode cX0_pushNumber 68 = .ok (.i2l, 1) := by decide +kernel
theorem dX0_pushNumber_69 : decode cX0_pushNumber 69 = .ok (.goto 4, 3) := by decide +kernel
theorem dX0_pushNumber_72 : decode cX0_pushNumber 72 = .ok (.lload_n 1, 1) := by decide +kernel
theorem dX0_pushNumber_73 : decode cX0_pushNumber 73 = .ok (.lastore, 1) := by decide +kernel
theorem dX0_pushNumber_74 : decode cX0_pushNumber 74 = .ok (.aload_n 0, 1) := by decide +kernel
theorem dX0_pushNumber_75 : decode cX0_pushNumber 75 = .ok (.dup, 1) := by decide +kernel
theorem dX0_pushNumber_76 : decode cX0_pushNumber 76 = .ok (.getfield 31, 3) := by decide +kernel
theorem dX0_pushNumber_79 : decode cX0_pushNumber 79 = .ok (.iconst 1, 1) := by decide +kernel
theorem dX0_pushNumber_80 : decode cX0_pushNumber 80 = .ok (.iadd, 1) := by decide +kernel
theorem dX0_pushNumber_81 : decode cX0_pushNumber 81 = .ok (.putfield 31, 3) := by decide +kernel
theorem dX0_pushNumber_84 : decode cX0_pushNumber 84 = .ok (.return_, 1) := by decide +kernel
theorem dX0_pushText_0 : decode cX0_pushText 0 = .ok (.aload_n 0, 1) := by decide +kernel
theorem dX0_pushText_1 : decode cX0_pushText 1 = .ok (.getfield 31, 3) := by decide +kernel
theorem dX0_pushText_4 : decode cX0_pushText 4 = .ok (.ifCond .lt 23, 3) := by decide +kernel
theorem dX0_pushText_7 : decode cX0_pushText 7 = .ok (.aload_n 0, 1) := by decide +kernel
theorem dX0_pushText_8 : decode cX0_pushText 8 = .ok (.getfield 31, 3) := by decide +kernel
theorem dX0_pushText_11 : decode cX0_pushText 11 = .ok (.sipush 200, 3) := by decide +kernel
theorem dX0_pushText_14 : decode cX0_pushText 14 = .ok (.if_icmp .ge 13, 3) := by decide +kernel
theorem dX0_pushText_17 : decode cX0_pushText 17 = .ok (.iload_n 3, 1) := by decide +kernel
theorem dX0_pushText_18 : decode cX0_pushText 18 = .ok (.ifCond .lt 9, 3) := by decide +kernel
theorem dX0_pushText_21 : decode cX0_pushText 21 = .ok (.iload_n 3, 1) := by decide +kernel
theorem dX0_pushText_22 : decode cX0_pushText 22 = .ok (.bipush 40, 2) := by decide +kernel
theorem dX0_pushText_24 : decode cX0_pushText 24 = .ok (.if_icmp .le 4, 3) := by decide +kernel
theorem dX0_pushText_27 : decode cX0_pushText 27 = .ok (.return_, 1) := by decide +kernel
theorem dX0_pushText_28 : decode cX0_pushText 28 = .ok (.iconst 0, 1) := by decide +kernel
theorem dX0_pushText_29 : decode cX0_pushText 29 = .ok (.istore 4, 2) := by decide +kernel
theorem dX0_pushText_31 : decode cX0_pushText 31 = .ok (.iload 4, 2) := by decide +kernel
theorem dX0_pushText_33 : decode cX0_pushText 33 = .ok (.iload_n 3, 1) := by decide +kernel
theorem dX0_pushText_34 : decode cX0_pushText 34 = .ok (.if_icmp .ge 33, 3) := by decide +kernel
theorem dX0_pushText_37 : decode cX0_pushText 37 = .ok (.aload_n 0, 1) := by decide +kernel
theorem dX0_pushText_38 : decode cX0_pushText 38 = .ok (.getfield 19, 3) := by decide +kernel
theorem dX0_pushText_41 : decode cX0_pushText 41 = .ok (.aload_n 0, 1) := by decide +kernel
theorem dX0_pushText_42 : decode cX0_pushText 42 = .ok (.getfield 31, 3) := by decide +kernel
theorem dX0_pushText_45 : decode cX0_pushText 45 = .ok (.bipush 40, 2) := by decide +kernel
theorem dX0_pushText_47 : decode cX0_pushText 47 = .ok (.imul, 1) := by decide +kernel
theorem dX0_pushText_48 : decode cX0_pushText 48 = .ok (.iload 4, 2) := by decide +kernel
theorem dX0_pushText_50 : decode cX0_pushText 50 = .ok (.iadd, 1) := by decide +kernel
theorem dX0_pushText_51 : decode cX0_pushText 51 = .ok (.aload_n 1, 1) := by decide +kernel
theorem dX0_pushText_52 : decode cX0_pushText 52 = .ok (.iload_n 2, 1) := by decide +kernel
theorem dX0_pushText_53 : decode cX0_pushText 53 = .ok (.iload 4, 2) := by decide +kernel
theorem dX0_pushText_55 : decode cX0_pushText 55 = .ok (.iadd, 1) := by decide +kernel
theorem dX0_pushText_56 : decode cX0_pushText 56 = .ok (.invokevirtual 34, 3) := by decide +kernel
theorem dX0_pushText_59 : decode cX0_pushText 59 = .ok (.i2b, 1) := by decide +kernel
theorem dX0_pushText_60 : decode cX0_pushText 60 = .ok (.bastore, 1) := by decide +kernel
theorem dX0_pushText_61 : decode cX0_pushText 61 = .ok (.iinc 4 1, 3) := by decide +kernel
theorem dX0_pushText_64 : decode cX0_pushText 64 = .ok (.goto (-33), 3) := by decide +kernel
theorem dX0_pushText_67 : decode cX0_pushText 67 = .ok (.aload_n 0, 1) := by decide +kernel
theorem dX0_pushText_68 : decode cX0_pushText 68 = .ok (.getfield 9, 3) := by decide +kernel
theorem dX0_pushText_71 : decode cX0_pushText 71 = .ok (.aload_n 0, 1) := by decide +kernel
theorem dX0_pushText_72 : decode cX0_pushText 72 = .ok (.getfield 31, 3) := by decide +kernel
theorem dX0_pushText_75 : decode cX0_pushText 75 = .ok (.iconst 1, 1) := by decide +kernel
theorem dX0_pushText_76 : decode cX0_pushText 76 = .ok (.bastore, 1) := by decide +kernel
theorem dX0_pushText_77 : decode cX0_pushText 77 = .ok (.aload_n 0, 1) := by decide +kernel
theorem dX0_pushText_78 : decode cX0_pushText 78 = .ok (.getfield 15, 3) := by decide +kernel
theorem dX0_pushText_81 : decode cX0_pushText 81 = .ok (.aload_n 0, 1) := by decide +kernel
theorem dX0_pushText_82 : decode cX0_pushText 82 = .ok (.getfield 31, 3) := by decide +kernel
theorem dX0_pushText_85 : decode cX0_pushText 85 = .ok (.iload_n 3, 1) := by decide +kernel
theorem dX0_pushText_86 : decode cX0_pushText 86 = .ok (.i2l, 1) := by decide +kernel
theorem dX0_pushText_87 : decode cX0_pushText 87 = .ok (.lastore, 1) := by decide +kernel
theorem dX0_pushText_88 : decode cX0_pushText 88 = .ok (.aload_n 0, 1) := by decide +kernel
theorem dX0_pushText_89 : decode cX0_pushText 89 = .ok (.dup, 1) := by decide +kernel
theorem dX0_pushText_90 : decode cX0_pushText 90 = .ok (.getfield 31, 3) := by decide +kernel
theorem dX0_pushText_93 : decode cX0_pushText 93 = .ok (.iconst 1, 1) := by decide +kernel
theorem dX0_pushText_94 : decode cX0_pushText 94 = .ok (.iadd, 1) := by decide +kernel
theorem dX0_pushText_95 : decode cX0_pushText 95 = .ok (.putfield 31, 3) := by decide +kernel
theorem dX0_pushText_98 : decode cX0_pushText 98 = .ok (.return_, 1) := by decide +kernel
theorem dX0_pushNone_0 : decode cX0_pushNone 0 = .ok (.aload_n 0, 1) := by decide +kernel
theorem dX0_pushNone_1 : decode cX0_pushNone 1 = .ok (.getfield 31, 3) := by decide +kernel
theorem dX0_pushNone_4 : decode cX0_pushNone 4 = .ok (.ifCond .lt 13, 3) := by decide +kernel
theorem dX0_pushNone_7 : decode cX0_pushNone 7 = .ok (.aload_n 0, 1) := by decide +kernel
theorem dX0_pushNone_8 : decode cX0_pushNone 8 = .ok (.getfield 31, 3) := by decide +kernel
theorem dX0_pushNone_11 : decode cX0_pushNone 11 = .ok (.sipush 200, 3) := by decide +kernel
theorem dX0_pushNone_14 : decode cX0_pushNone 14 = .ok (.if_icmp .lt 4, 3) := by decide +kernel
theorem dX0_pushNone_17 : decode cX0_pushNone 17 = .ok (.return_, 1) := by decide +kernel
theorem dX0_pushNone_18 : decode cX0_pushNone 18 = .ok (.aload_n 0, 1) := by decide +kernel
theorem dX0_pushNone_19 : decode cX0_pushNone 19 = .ok (.aload_n 0, 1) := by decide +kernel
theorem dX0_pushNone_20 : decode cX0_pushNone 20 = .ok (.getfield 31, 3) := by decide +kernel
theorem dX0_pushNone_23 : decode cX0_pushNone 23 = .ok (.invokevirtual 40, 3) := by decide +kernel
theorem dX0_pushNone_26 : decode cX0_pushNone 26 = .ok (.aload_n 0, 1) := by decide +kernel
theorem dX0_pushNone_27 : decode cX0_pushNone 27 = .ok (.dup, 1) := by decide +kernel
theorem dX0_pushNone_28 : decode cX0_pushNone 28 = .ok (.getfield 31, 3) := by decide +kernel
theorem dX0_pushNone_31 : decode cX0_pushNone 31 = .ok (.iconst 1, 1) := by decide +kernel
theorem dX0_pushNone_32 : decode cX0_pushNone 32 = .ok (.iadd, 1) := by decide +kernel
theorem dX0_pushNone_33 : decode cX0_pushNone 33 = .ok (.putfield 31, 3) := by decide +kernel
theorem dX0_pushNone_36 : decode cX0_pushNone 36 = .ok (.return_, 1) := by decide +kernel
theorem dX0_pushCopy_0 : decode cX0_pushCopy 0 = .ok (.aload_n 0, 1) := by decide +kernel
theorem dX0_pushCopy_1 : decode cX0_pushCopy 1 = .ok (.getfield 31, 3) := by decide +kernel
theorem dX0_pushCopy_4 : decode cX0_pushCopy 4 = .ok (.ifCond .lt 13, 3) := by decide +kernel
theorem dX0_pushCopy_7 : decode cX0_pushCopy 7 = .ok (.aload_n 0, 1) := by decide +kernel
theorem dX0_pushCopy_8 : decode cX0_pushCopy 8 = .ok (.getfield 31, 3) := by decide +kernel
theorem dX0_pushCopy_11 : decode cX0_pushCopy 11 = .ok (.sipush 200, 3) := by decide +kernel
theorem dX0_pushCopy_14 : decode cX0_pushCopy 14 = .ok (.if_icmp .lt 4, 3) := by decide +kernel
theorem dX0_pushCopy_17 : decode cX0_pushCopy 17 = .ok (.return_, 1) := by decide +kernel
theorem dX0_pushCopy_18 : decode cX0_pushCopy 18 = .ok (.aload_n 0, 1) := by decide +kernel
theorem dX0_pushCopy_19 : decode cX0_pushCopy 19 = .ok (.aload_n 0, 1) := by decide +kernel
theorem dX0_pushCopy_20 : decode cX0_pushCopy 20 = .ok (.getfield 31, 3) := by decide +kernel
theorem dX0_pushCopy_23 : decode cX0_pushCopy 23 = .ok (.aload_n 1, 1) := by decide +kernel
theorem dX0_pushCopy_24 : decode cX0_pushCopy 24 = .ok (.iload_n 2, 1) := by decide +kernel
theorem dX0_pushCopy_25 : decode cX0_pushCopy 25 = .ok (.invokevirtual 44, 3) := by decide +kernel
theorem dX0_pushCopy_28 : decode cX0_pushCopy 28 = .ok (.aload_n 0, 1) := by decide +kernel
theorem dX0_pushCopy_29 : decode cX0_pushCopy 29 = .ok (.dup, 1) := by decide +kernel
theorem dX0_pushCopy_30 : decode cX0_pushCopy 30 = .ok (.getfield 31, 3) := by decide +kernel
theorem dX0_pushCopy_33 : decode cX0_pushCopy 33 = .ok (.iconst 1, 1) := by decide +kernel
theorem dX0_pushCopy_34 : decode cX0_pushCopy 34 = .ok (.iadd, 1) := by decide +kernel
theorem dX0_pushCopy_35 : decode cX0_pushCopy 35 = .ok (.putfield 31, 3) := by decide +kernel
theorem dX0_pushCopy_38 : decode cX0_pushCopy 38 = .ok (.return_, 1) := by decide +kernel
theorem dX0_setNone_0 : decode cX0_setNone 0 = .ok (.iload_n 1, 1) := by decide +kernel
theorem dX0_setNone_1 : decode cX0_setNone 1 = .ok (.ifCond .lt 24, 3) := by decide +kernel
theorem dX0_setNone_4 : decode cX0_setNone 4 = .ok (.iload_n 1, 1) := by decide +kernel
theorem dX0_setNone_5 : decode cX0_setNone 5 = .ok (.sipush 200, 3) := by decide +kernel
theorem dX0_setNone_8 : decode cX0_setNone 8 = .ok (.if_icmp .ge 17, 3) := by decide +kernel
theorem dX0_setNone_11 : decode cX0_setNone 11 = .ok (.aload_n 0, 1) := by decide +kernel
theorem dX0_setNone_12 : decode cX0_setNone 12 = .ok (.getfield 9, 3) := by decide +kernel
theorem dX0_setNone_15 : decode cX0_setNone 15 = .ok (.iload_n 1, 1) := by decide +kernel
theorem dX0_setNone_16 : decode cX0_setNone 16 = .ok (.iconst 0, 1) := by decide +kernel
theorem dX0_setNone_17 : decode cX0_setNone 17 = .ok (.bastore, 1) := by decide +kernel
theorem dX0_setNone_18 : decode cX0_setNone 18 = .ok (.aload_n 0, 1) := by decide +kernel
theorem dX0_setNone_19 : decode cX0_setNone 19 = .ok (.getfield 15, 3) := by decide +kernel
theorem dX0_setNone_22 : decode cX0_setNone 22 = .ok (.iload_n 1, 1) := by decide +kernel
theorem dX0_setNone_23 : decode cX0_setNone 23 = .ok (.lconst 0, 1) := by decide +kernel
theorem dX0_setNone_24 : decode cX0_setNone 24 = .ok (.lastore, 1) := by decide +kernel
theorem dX0_setNone_25 : decode cX0_setNone 25 = .ok (.return_, 1) := by decide +kernel
theorem dX0_setCopy_0 : decode cX0_setCopy 0 = .ok (.iload_n 1, 1) := by decide +kernel
theorem dX0_setCopy_1 : decode cX0_setCopy 1 = .ok (.ifCond .lt 21, 3) := by decide +kernel
theorem dX0_setCopy_4 : decode cX0_setCopy 4 = .ok (.iload_n 1, 1) := by decide +kernel
theorem dX0_setCopy_5 : decode cX0_setCopy 5 = .ok (.sipush 200, 3) := by decide +kernel
theorem dX0_setCopy_8 : decode cX0_setCopy 8 = .ok (.if_icmp .ge 14, 3) := by decide +kernel
theorem dX0_setCopy_11 : decode cX0_setCopy 11 = .ok (.iload_n 3, 1) := by decide +kernel
theorem dX0_setCopy_12 : decode cX0_setCopy 12 = .ok (.ifCond .lt 10, 3) := by decide +kernel
theorem dX0_setCopy_15 : decode cX0_setCopy 15 = .ok (.iload_n 3, 1) := by decide +kernel
theorem dX0_setCopy_16 : decode cX0_setCopy 16 = .ok (.sipush 200, 3) := by decide +kernel
theorem dX0_setCopy_19 : decode cX0_setCopy 19 = .ok (.if_icmp .lt 4, 3) := by decide +kernel
theorem dX0_setCopy_22 : decode cX0_setCopy 22 = .ok (.return_, 1) := by decide +kernel
theorem dX0_setCopy_23 : decode cX0_setCopy 23 = .ok (.aload_n 0, 1) := by decide +kernel
theorem dX0_setCopy_24 : decode cX0_setCopy 24 = .ok (.getfield 9, 3) := by decide +kernel
theorem dX0_setCopy_27 : decode cX0_setCopy 27 = .ok (.iload_n 1, 1) := by decide +kernel
theorem dX0_setCopy_28 : decode cX0_setCopy 28 = .ok (.aload_n 2, 1) := by decide +kernel
theorem dX0_setCopy_29 : decode cX0_setCopy 29 = .ok (.getfield 9, 3) := by decide +kernel
theorem dX0_setCopy_32 : decode cX0_setCopy 32 = .ok (.iload_n 3, 1) := by decide +kernel
theorem dX0_setCopy_33 : decode cX0_setCopy 33 = .ok (.baload, 1) := by decide +kernel
theorem dX0_setCopy_34 : decode cX0_setCopy 34 = .ok (.bastore, 1) := by decide +kernel
theorem dX0_setCopy_35 : decode cX0_setCopy 35 = .ok (.aload_n 0, 1) := by decide +kernel
theorem dX0_setCopy_36 : decode cX0_setCopy 36 = .ok (.getfield 15, 3) := by decide +kernel
theorem dX0_setCopy_39 : decode cX0_setCopy 39 = .ok (.iload_n 1, 1) := by decide +kernel
theorem dX0_setCopy_40 : decode cX0_setCopy 40 = .ok (.aload_n 2, 1) := by decide +kernel
theorem dX0_setCopy_41 : decode cX0_setCopy 41 = .ok (.getfield 15, 3) := by decide +kernel
theorem dX0_setCopy_44 : decode cX0_setCopy 44 = .ok (.iload_n 3, 1) := by decide +kernel
theorem dX0_setCopy_45 : decode cX0_setCopy 45 = .ok (.laload, 1) := by decide +kernel
theorem dX0_setCopy_46 : decode cX0_setCopy 46 = .ok (.lastore, 1) := by decide +kernel
theorem dX0_setCopy_47 : decode cX0_setCopy 47 = .ok (.aload_n 0, 1) := by decide +kernel
theorem dX0_setCopy_48 : decode cX0_setCopy 48 = .ok (.getfield 23, 3) := by decide +kernel
theorem dX0_setCopy_51 : decode cX0_setCopy 51 = .ok (.iconst 2, 1) := by decide +kernel
theorem dX0_setCopy_52 : decode cX0_setCopy 52 = .ok (.if_icmp .ne 56, 3) := by decide +kernel
theorem dX0_setCopy_55 : decode cX0_setCopy 55 = .ok (.iconst 0, 1) := by decide +kernel
theorem dX0_setCopy_56 : decode cX0_setCopy 56 = .ok (.istore 4, 2) := by decide +kernel
theorem dX0_setCopy_58 : decode cX0_setCopy 58 = .ok (.iload 4, 2) := by decide +kernel
theorem dX0_setCopy_60 : decode cX0_setCopy 60 = .ok (.bipush 40, 2) := by decide +kernel
theorem dX0_setCopy_62 : decode cX0_setCopy 62 = .ok (.if_icmp .ge 46, 3) := by decide +kernel
theorem dX0_setCopy_65 : decode cX0_setCopy 65 = .ok (.iload 4, 2) := by decide +kernel
theorem dX0_setCopy_67 : decode cX0_setCopy 67 = .ok (.i2l, 1) := by decide +kernel
theorem dX0_setCopy_68 : decode cX0_setCopy 68 = .ok (.aload_n 0, 1) := by decide +kernel
theorem dX0_setCopy_69 : decode cX0_setCopy 69 = .ok (.getfield 15, 3) := by decide +kernel
theorem dX0_setCopy_72 : decode cX0_setCopy 72 = .ok (.iload_n 1, 1) := by decide +kernel
theorem dX0_setCopy_73 : decode cX0_setCopy 73 = .ok (.laload, 1) := by decide +kernel
theorem dX0_setCopy_74 : decode cX0_setCopy 74 = .ok (.lcmp, 1) := by decide +kernel
theorem dX0_setCopy_75 : decode cX0_setCopy 75 = .ok (.ifCond .ge 33, 3) := by decide +kernel
theorem dX0_setCopy_78 : decode cX0_setCopy 78 = .ok (.aload_n 0, 1) := by decide +kernel
theorem dX0_setCopy_79 : decode cX0_setCopy 79 = .ok (.getfield 19, 3) := by decide +kernel
theorem dX0_setCopy_82 : decode cX0_setCopy 82 = .ok (.iload_n 1, 1) := by decide +kernel
theorem dX0_setCopy_83 : decode cX0_setCopy 83 = .ok (.bipush 40, 2) := by decide +kernel
theorem dX0_setCopy_85 : decode cX0_setCopy 85 = .ok (.imul, 1) := by decide +kernel
theorem dX0_setCopy_86 : decode cX0_setCopy 86 = .ok (.iload 4, 2) := by decide +kernel
theorem dX0_setCopy_88 : decode cX0_setCopy 88 = .ok (.iadd, 1) := by decide +kernel
theorem dX0_setCopy_89 : decode cX0_setCopy 89 = .ok (.aload_n 2, 1) := by decide +kernel
theorem dX0_setCopy_90 : decode cX0_setCopy 90 = .ok (.getfield 19, 3) := by decide +kernel
theorem dX0_setCopy_93 : decode cX0_setCopy 93 = .ok (.iload_n 3, 1) := by decide +kernel
theorem dX0_setCopy_94 : decode cX0_setCopy 94 = .ok (.bipush 40, 2) := by decide +kernel
theorem dX0_setCopy_96 : decode cX0_setCopy 96 = .ok (.imul, 1) := by decide +kernel
theorem dX0_setCopy_97 : decode cX0_setCopy 97 = .ok (.iload 4, 2) := by decide +kernel
theorem dX0_setCopy_99 : decode cX0_setCopy 99 = .ok (.iadd, 1) := by decide +kernel
theorem dX0_setCopy_100 : decode cX0_setCopy 100 = .ok (.baload, 1) := by decide +kernel
theorem dX0_setCopy_101 : decode cX0_setCopy 101 = .ok (.bastore, 1) := by decide +kernel
theorem dX0_setCopy_102 : decode cX0_setCopy 102 = .ok (.iinc 4 1, 3) := by decide +kernel
theorem dX0_setCopy_105 : decode cX0_setCopy 105 = .ok (.goto (-47), 3) := by decide +kernel
theorem dX0_setCopy_108 : decode cX0_setCopy 108 = .ok (.return_, 1) := by decide +kernel
theorem dX0_multiply_0 : decode cX0_multiply 0 = .ok (.iload_n 1, 1) := by decide +kernel
theorem dX0_multiply_1 : decode cX0_multiply 1 = .ok (.iconst 1, 1) := by decide +kernel
theorem dX0_multiply_2 : decode cX0_multiply 2 = .ok (.isub, 1) := by decide +kernel
theorem dX0_multiply_3 : decode cX0_multiply 3 = .ok (.istore_n 3, 1) := by decide +kernel
theorem dX0_multiply_4 : decode cX0_multiply 4 = .ok (.iload_n 3, 1) := by decide +kernel
theorem dX0_multiply_5 : decode cX0_multiply 5 = .ok (.ifCond .lt 37, 3) := by decide +kernel
theorem dX0_multiply_8 : decode cX0_multiply 8 = .ok (.iload_n 2, 1) := by decide +kernel
theorem dX0_multiply_9 : decode cX0_multiply 9 = .ok (.iconst 1, 1) := by decide +kernel
theorem dX0_multiply_10 : decode cX0_multiply 10 = .ok (.isub, 1) := by decide +kernel
theorem dX0_multiply_11 : decode cX0_multiply 11 = .ok (.istore 4, 2) := by decide +kernel
theorem dX0_multiply_13 : decode cX0_multiply 13 = .ok (.iload 4, 2) := by decide +kernel
theorem dX0_multiply_15 : decode cX0_multiply 15 = .ok (.ifCond .lt 21, 3) := by decide +kernel
theorem dX0_multiply_18 : decode cX0_multiply 18 = .ok (.aload_n 0, 1) := by decide +kernel
theorem dX0_multiply_19 : decode cX0_multiply 19 = .ok (.iload_n 3, 1) := by decide +kernel
theorem dX0_multiply_20 : decode cX0_multiply 20 = .ok (.iload_n 2, 1) := by decide +kernel
theorem dX0_multiply_21 : decode cX0_multiply 21 = .ok (.imul, 1) := by decide +kernel
theorem dX0_multiply_22 : decode cX0_multiply 22 = .ok (.iload 4, 2) := by decide +kernel
theorem dX0_multiply_24 : decode cX0_multiply 24 = .ok (.iadd, 1) := by decide +kernel
theorem dX0_multiply_25 : decode cX0_multiply 25 = .ok (.aload_n 0, 1) := by decide +kernel
theorem dX0_multiply_26 : decode cX0_multiply 26 = .ok (.iload_n 3, 1) := by decide +kernel
theorem dX0_multiply_27 : decode cX0_multiply 27 = .ok (.invokevirtual 44, 3) := by decide +kernel
theorem dX0_multiply_30 : decode cX0_multiply 30 = .ok (.iinc 4 (-1), 3) := by decide +kernel
theorem dX0_multiply_33 : decode cX0_multiply 33 = .ok (.goto (-20), 3) := by decide +kernel
theorem dX0_multiply_36 : decode cX0_multiply 36 = .ok (.iinc 3 (-1), 3) := by decide +kernel
theorem dX0_multiply_39 : decode cX0_multiply 39 = .ok (.goto (-35), 3) := by decide +kernel
theorem dX0_multiply_42 : decode cX0_multiply 42 = .ok (.aload_n 0, 1) := by decide +kernel
theorem dX0_multiply_43 : decode cX0_multiply 43 = .ok (.iload_n 1, 1) := by decide +kernel
theorem dX0_multiply_44 : decode cX0_multiply 44 = .ok (.iload_n 2, 1) := by decide +kernel
theorem dX0_multiply_45 : decode cX0_multiply 45 = .ok (.imul, 1) := by decide +kernel
theorem dX0_multiply_46 : decode cX0_multiply 46 = .ok (.putfield 31, 3) := by decide +kernel
theorem dX0_multiply_49 : decode cX0_multiply 49 = .ok (.return_, 1) := by decide +kernel
theorem dX0_spread_0 : decode cX0_spread 0 = .ok (.aload_n 0, 1) := by decide +kernel
theorem dX0_spread_1 : decode cX0_spread 1 = .ok (.getfield 31, 3) := by decide +kernel
theorem dX0_spread_4 : decode cX0_spread 4 = .ok (.istore 4, 2) := by decide +kernel
theorem dX0_spread_6 : decode cX0_spread 6 = .ok (.iload_n 2, 1) := by decide +kernel
theorem dX0_spread_7 : decode cX0_spread 7 = .ok (.iconst 1, 1) := by decide +kernel
theorem dX0_spread_8 : decode cX0_spread 8 = .ok (.isub, 1) := by decide +kernel
theorem dX0_spread_9 : decode cX0_spread 9 = .ok (.istore 5, 2) := by decide +kernel
theorem dX0_spread_11 : decode cX0_spread 11 = .ok (.iload 5, 2) := by decide +kernel
theorem dX0_spread_13 : decode cX0_spread 13 = .ok (.ifCond .lt 50, 3) := by decide +kernel
theorem dX0_spread_16 : decode cX0_spread 16 = .ok (.iload 5, 2) := by decide +kernel
theorem dX0_spread_18 : decode cX0_spread 18 = .ok (.aload_n 3, 1) := by decide +kernel
theorem dX0_spread_19 : decode cX0_spread 19 = .ok (.arraylength, 1) := by decide +kernel
theorem dX0_spread_20 : decode cX0_spread 20 = .ok (.if_icmp .ge 29, 3) := by decide +kernel
theorem dX0_spread_23 : decode cX0_spread 23 = .ok (.aload_n 3, 1) := by decide +kernel
theorem dX0_spread_24 : decode cX0_spread 24 = .ok (.iload 5, 2) := by decide +kernel
theorem dX0_spread_26 : decode cX0_spread 26 = .ok (.laload, 1) := by decide +kernel
theorem dX0_spread_27 : decode cX0_spread 27 = .ok (.lconst 0, 1) := by decide +kernel
theorem dX0_spread_28 : decode cX0_spread 28 = .ok (.lcmp, 1) := by decide +kernel
theorem dX0_spread_29 : decode cX0_spread 29 = .ok (.ifCond .eq 20, 3) := by decide +kernel
theorem dX0_spread_32 : decode cX0_spread 32 = .ok (.iinc 4 (-1), 3) := by decide +kernel
theorem dX0_spread_35 : decode cX0_spread 35 = .ok (.aload_n 0, 1) := by decide +kernel
theorem dX0_spread_36 : decode cX0_spread 36 = .ok (.iload_n 1, 1) := by decide +kernel
theorem dX0_spread_37 : decode cX0_spread 37 = .ok (.iload 5, 2) := by decide +kernel
theorem dX0_spread_39 : decode cX0_spread 39 = .ok (.iadd, 1) := by decide +kernel
theorem dX0_spread_40 : decode cX0_spread 40 = .ok (.aload_n 0, 1) := by decide +kernel
theorem dX0_spread_41 : decode cX0_spread 41 = .ok (.iload 4, 2) := by decide +kernel
theorem dX0_spread_43 : decode cX0_spread 43 = .ok (.invokevirtual 44, 3) := by decide +kernel
theorem dX0_spread_46 : decode cX0_spread 46 = .ok (.goto 11, 3) := by decide +kernel
theorem dX0_spread_49 : decode cX0_spread 49 = .ok (.aload_n 0, 1) := by decide +kernel
theorem dX0_spread_50 : decode cX0_spread 50 = .ok (.iload_n 1, 1) := by decide +kernel
theorem dX0_spread_51 : decode cX0_spread 51 = .ok (.iload 5, 2) := by decide +kernel
theorem dX0_spread_53 : decode cX0_spread 53 = .ok (.iadd, 1) := by decide +kernel
theorem dX0_spread_54 : decode cX0_spread 54 = .ok (.invokevirtual 40, 3) := by decide +kernel
theorem dX0_spread_57 : decode cX0_spread 57 = .ok (.iinc 5 (-1), 3) := by decide +kernel
theorem dX0_spread_60 : decode cX0_spread 60 = .ok (.goto (-49), 3) := by decide +kernel
theorem dX0_spread_63 : decode cX0_spread 63 = .ok (.aload_n 0, 1) := by decide +kernel
theorem dX0_spread_64 : decode cX0_spread 64 = .ok (.iload_n 1, 1) := by decide +kernel
theorem dX0_spread_65 : decode cX0_spread 65 = .ok (.iload_n 2, 1) := by decide +kernel
theorem dX0_spread_66 : decode cX0_spread 66 = .ok (.iadd, 1) := by decide +kernel
theorem dX0_spread_67 : decode cX0_spread 67 = .ok (.sipush 200, 3) := by decide +kernel
theorem dX0_spread_70 : decode cX0_spread 70 = .ok (.invokestatic 48, 3) := by decide +kernel
theorem dX0_spread_73 : decode cX0_spread 73 = .ok (.putfield 31, 3) := by decide +kernel
theorem dX0_spread_76 : decode cX0_spread 76 = .ok (.return_, 1) := by decide +kernel
theorem dX0_become_0 : decode cX0_become 0 = .ok (.aload_n 0, 1) := by decide +kernel
theorem dX0_become_1 : decode cX0_become 1 = .ok (.aload_n 1, 1) := by decide +kernel
theorem dX0_become_2 : decode cX0_become 2 = .ok (.getfield 23, 3) := by decide +kernel
theorem dX0_become_5 : decode cX0_become 5 = .ok (.aload_n 1, 1) := by decide +kernel
theorem dX0_become_6 : decode cX0_become 6 = .ok (.getfield 27, 3) := by decide +kernel
theorem dX0_become_9 : decode cX0_become 9 = .ok (.invokevirtual 54, 3) := by decide +kernel
theorem dX0_become_12 : decode cX0_become 12 = .ok (.iconst 0, 1) := by decide +kernel
theorem dX0_become_13 : decode cX0_become 13 = .ok (.istore_n 2, 1) := by decide +kernel
theorem dX0_become_14 : decode cX0_become 14 = .ok (.iload_n 2, 1) := by decide +kernel
theorem dX0_become_15 : decode cX0_become 15 = .ok (.aload_n 1, 1) := by decide +kernel
theorem dX0_become_16 : decode cX0_become 16 = .ok (.getfield 31, 3) := by decide +kernel
theorem dX0_become_19 : decode cX0_become 19 = .ok (.if_icmp .ge 15, 3) := by decide +kernel
theorem dX0_become_22 : decode cX0_become 22 = .ok (.aload_n 0, 1) := by decide +kernel
theorem dX0_become_23 : decode cX0_become 23 = .ok (.aload_n 1, 1) := by decide +kernel
theorem dX0_become_24 : decode cX0_become 24 = .ok (.iload_n 2, 1) := by decide +kernel
theorem dX0_become_25 : decode cX0_become 25 = .ok (.invokevirtual 58, 3) := by decide +kernel
theorem dX0_become_28 : decode cX0_become 28 = .ok (.iinc 2 1, 3) := by decide +kernel
theorem dX0_become_31 : decode cX0_become 31 = .ok (.goto (-17), 3) := by decide +kernel
theorem dX0_become_34 : decode cX0_become 34 = .ok (.return_, 1) := by decide +kernel
theorem dX0_isSame_0 : decode cX0_isSame 0 = .ok (.aload_n 0, 1) := by decide +kernel
theorem dX0_isSame_1 : decode cX0_isSame 1 = .ok (.iload_n 1, 1) := by decide +kernel
theorem dX0_isSame_2 : decode cX0_isSame 2 = .ok (.invokevirtual 62, 3) := by decide +kernel
theorem dX0_isSame_5 : decode cX0_isSame 5 = .ok (.aload_n 2, 1) := by decide +kernel
theorem dX0_isSame_6 : decode cX0_isSame 6 = .ok (.iload_n 3, 1) := by decide +kernel
theorem dX0_isSame_7 : decode cX0_isSame 7 = .ok (.invokevirtual 62, 3) := by decide +kernel
theorem dX0_isSame_10 : decode cX0_isSame 10 = .ok (.if_icmp .ne 17, 3) := by decide +kernel
theorem dX0_isSame_13 : decode cX0_isSame 13 = .ok (.aload_n 0, 1) := by decide +kernel
theorem dX0_isSame_14 : decode cX0_isSame 14 = .ok (.iload_n 1, 1) := by decide +kernel
theorem dX0_isSame_15 : decode cX0_isSame 15 = .ok (.invokevirtual 66, 3) := by decide +kernel
theorem dX0_isSame_18 : decode cX0_isSame 18 = .ok (.aload_n 2, 1) := by decide +kernel
theorem dX0_isSame_19 : decode cX0_isSame 19 = .ok (.iload_n 3, 1) := by decide +kernel
theorem dX0_isSame_20 : decode cX0_isSame 20 = .ok (.invokevirtual 66, 3) := by decide +kernel
theorem dX0_isSame_23 : decode cX0_isSame 23 = .ok (.lcmp, 1) := by decide +kernel
theorem dX0_isSame_24 : decode cX0_isSame 24 = .ok (.ifCond .eq 5, 3) := by decide +kernel
theorem dX0_isSame_27 : decode cX0_isSame 27 = .ok (.iconst 0, 1) := by decide +kernel
theorem dX0_isSame_28 : decode cX0_isSame 28 = .ok (.ireturn, 1) := by decide +kernel
theorem dX0_isSame_29 : decode cX0_isSame 29 = .ok (.aload_n 0, 1) := by decide +kernel
theorem dX0_isSame_30 : decode cX0_isSame 30 = .ok (.getfield 23, 3) := by decide +kernel
theorem dX0_isSame_33 : decode cX0_isSame 33 = .ok (.iconst 2, 1) := by decide +kernel
theorem dX0_isSame_34 : decode cX0_isSame 34 = .ok (.if_icmp .eq 5, 3) := by decide +kernel
theorem dX0_isSame_37 : decode cX0_isSame 37 = .ok (.iconst 1, 1) := by decide +kernel
theorem dX0_isSame_38 : decode cX0_isSame 38 = .ok (.ireturn, 1) := by decide +kernel
theorem dX0_isSame_39 : decode cX0_isSame 39 = .ok (.aload_n 0, 1) := by decide +kernel
theorem dX0_isSame_40 : decode cX0_isSame 40 = .ok (.iload_n 1, 1) := by decide +kernel
theorem dX0_isSame_41 : decode cX0_isSame 41 = .ok (.invokevirtual 66, 3) := by decide +kernel
theorem dX0_isSame_44 : decode cX0_isSame 44 = .ok (.lstore 4, 2) := by decide +kernel
theorem dX0_isSame_46 : decode cX0_isSame 46 = .ok (.iconst 0, 1) := by decide +kernel
theorem dX0_isSame_47 : decode cX0_isSame 47 = .ok (.istore 6, 2) := by decide +kernel
theorem dX0_isSame_49 : decode cX0_isSame 49 = .ok (.iload 6, 2) := by decide +kernel
theorem dX0_isSame_51 : decode cX0_isSame 51 = .ok (.bipush 40, 2) := by decide +kernel
theorem dX0_isSame_53 : decode cX0_isSame 53 = .ok (.if_icmp .ge 37, 3) := by decide +kernel
theorem dX0_isSame_56 : decode cX0_isSame 56 = .ok (.iload 6, 2) := by decide +kernel
theorem dX0_isSame_58 : decode cX0_isSame 58 = .ok (.i2l, 1) := by decide +kernel
theorem dX0_isSame_59 : decode cX0_isSame 59 = .ok (.lload 4, 2) := by decide +kernel
theorem dX0_isSame_61 : decode cX0_isSame 61 = .ok (.lcmp, 1) := by decide +kernel
theorem dX0_isSame_62 : decode cX0_isSame 62 = .ok (.ifCond .ge 28, 3) := by decide +kernel
theorem dX0_isSame_65 : decode cX0_isSame 65 = .ok (.aload_n 0, 1) := by decide +kernel
theorem dX0_isSame_66 : decode cX0_isSame 66 = .ok (.iload_n 1, 1) := by decide +kernel
theorem dX0_isSame_67 : decode cX0_isSame 67 = .ok (.iload 6, 2) := by decide +kernel
theorem dX0_isSame_69 : decode cX0_isSame 69 = .ok (.invokevirtual 70, 3) := by decide +kernel
theorem dX0_isSame_72 : decode cX0_isSame 72 = .ok (.aload_n 2, 1) := by decide +kernel
theorem dX0_isSame_73 : decode cX0_isSame 73 = .ok (.iload_n 3, 1) := by decide +kernel
theorem dX0_isSame_74 : decode cX0_isSame 74 = .ok (.iload 6, 2) := by decide +kernel
theorem dX0_isSame_76 : decode cX0_isSame 76 = .ok (.invokevirtual 70, 3) := by decide +kernel
theorem dX0_isSame_79 : decode cX0_isSame 79 = .ok (.if_icmp .eq 5, 3) := by decide +kernel
theorem dX0_isSame_82 : decode cX0_isSame 82 = .ok (.iconst 0, 1) := by decide +kernel
theorem dX0_isSame_83 : decode cX0_isSame 83 = .ok (.ireturn, 1) := by decide +kernel
theorem dX0_isSame_84 : decode cX0_isSame 84 = .ok (.iinc 6 1, 3) := by decide +kernel
theorem dX0_isSame_87 : decode cX0_isSame 87 = .ok (.goto (-38), 3) := by decide +kernel
theorem dX0_isSame_90 : decode cX0_isSame 90 = .ok (.iconst 1, 1) := by decide +kernel
theorem dX0_isSame_91 : decode cX0_isSame 91 = .ok (.ireturn, 1) := by decide +kernel
theorem dX0_isLike_0 : decode cX0_isLike 0 = .ok (.aload_n 0, 1) := by decide +kernel
theorem dX0_isLike_1 : decode cX0_isLike 1 = .ok (.getfield 23, 3) := by decide +kernel
theorem dX0_isLike_4 : decode cX0_isLike 4 = .ok (.aload_n 1, 1) := by decide +kernel
theorem dX0_isLike_5 : decode cX0_isLike 5 = .ok (.getfield 23, 3) := by decide +kernel
theorem dX0_isLike_8 : decode cX0_isLike 8 = .ok (.if_icmp .ne 14, 3) := by decide +kernel
theorem dX0_isLike_11 : decode cX0_isLike 11 = .ok (.aload_n 0, 1) := by decide +kernel
theorem dX0_isLike_12 : decode cX0_isLike 12 = .ok (.getfield 31, 3) := by decide +kernel
theorem dX0_isLike_15 : decode cX0_isLike 15 = .ok (.aload_n 1, 1) := by decide +kernel
theorem dX0_isLike_16 : decode cX0_isLike 16 = .ok (.getfield 31, 3) := by decide +kernel
theorem dX0_isLike_19 : decode cX0_isLike 19 = .ok (.if_icmp .eq 5, 3) := by decide +kernel
theorem dX0_isLike_22 : decode cX0_isLike 22 = .ok (.iconst 0, 1) := by decide +kernel
theorem dX0_isLike_23 : decode cX0_isLike 23 = .ok (.ireturn, 1) := by decide +kernel
theorem dX0_isLike_24 : decode cX0_isLike 24 = .ok (.iconst 0, 1) := by decide +kernel
theorem dX0_isLike_25 : decode cX0_isLike 25 = .ok (.istore_n 2, 1) := by decide +kernel
theorem dX0_isLike_26 : decode cX0_isLike 26 = .ok (.iload_n 2, 1) := by decide +kernel
theorem dX0_isLike_27 : decode cX0_isLike 27 = .ok (.aload_n 0, 1) := by decide +kernel
theorem dX0_isLike_28 : decode cX0_isLike 28 = .ok (.getfield 31, 3) := by decide +kernel
theorem dX0_isLike_31 : decode cX0_isLike 31 = .ok (.if_icmp .ge 21, 3) := by decide +kernel
theorem dX0_isLike_34 : decode cX0_isLike 34 = .ok (.aload_n 0, 1) := by decide +kernel
theorem dX0_isLike_35 : decode cX0_isLike 35 = .ok (.iload_n 2, 1) := by decide +kernel
theorem dX0_isLike_36 : decode cX0_isLike 36 = .ok (.aload_n 1, 1) := by decide +kernel
theorem dX0_isLike_37 : decode cX0_isLike 37 = .ok (.iload_n 2, 1) := by decide +kernel
theorem dX0_isLike_38 : decode cX0_isLike 38 = .ok (.invokevirtual 73, 3) := by decide +kernel
theorem dX0_isLike_41 : decode cX0_isLike 41 = .ok (.ifCond .ne 5, 3) := by decide +kernel
theorem dX0_isLike_44 : decode cX0_isLike 44 = .ok (.iconst 0, 1) := by decide +kernel
theorem dX0_isLike_45 : decode cX0_isLike 45 = .ok (.ireturn, 1) := by decide +kernel
theorem dX0_isLike_46 : decode cX0_isLike 46 = .ok (.iinc 2 1, 3) := by decide +kernel
theorem dX0_isLike_49 : decode cX0_isLike 49 = .ok (.goto (-23), 3) := by decide +kernel
theorem dX0_isLike_52 : decode cX0_isLike 52 = .ok (.iconst 1, 1) := by decide +kernel
theorem dX0_isLike_53 : decode cX0_isLike 53 = .ok (.ireturn, 1) := by decide +kernel
theorem dX0_firstLike_0 : decode cX0_firstLike 0 = .ok (.iconst 0, 1) := by decide +kernel
theorem dX0_firstLike_1 : decode cX0_firstLike 1 = .ok (.istore_n 2, 1) := by decide +kernel
theorem dX0_firstLike_2 : decode cX0_firstLike 2 = .ok (.iload_n 2, 1) := by decide +kernel
theorem dX0_firstLike_3 : decode cX0_firstLike 3 = .ok (.iload_n 1, 1) := by decide +kernel
theorem dX0_firstLike_4 : decode cX0_firstLike 4 = .ok (.if_icmp .ge 21, 3) := by decide +kernel
theorem dX0_firstLike_7 : decode cX0_firstLike 7 = .ok (.aload_n 0, 1) := by decide +kernel
theorem dX0_firstLike_8 : decode cX0_firstLike 8 = .ok (.iload_n 2, 1) := by decide +kernel
theorem dX0_firstLike_9 : decode cX0_firstLike 9 = .ok (.aload_n 0, 1) := by decide +kernel
theorem dX0_firstLike_10 : decode cX0_firstLike 10 = .ok (.iload_n 1, 1) := by decide +kernel
theorem dX0_firstLike_11 : decode cX0_firstLike 11 = .ok (.invokevirtual 73, 3) := by decide +kernel
theorem dX0_firstLike_14 : decode cX0_firstLike 14 = .ok (.ifCond .eq 5, 3) := by decide +kernel
theorem dX0_firstLike_17 : decode cX0_firstLike 17 = .ok (.iload_n 2, 1) := by decide +kernel
theorem dX0_firstLike_18 : decode cX0_firstLike 18 = .ok (.ireturn, 1) := by decide +kernel
theorem dX0_firstLike_19 : decode cX0_firstLike 19 = .ok (.iinc 2 1, 3) := by decide +kernel
theorem dX0_firstLike_22 : decode cX0_firstLike 22 = .ok (.goto (-20), 3) := by decide +kernel
theorem dX0_firstLike_25 : decode cX0_firstLike 25 = .ok (.iload_n 1, 1) := by decide +kernel
theorem dX0_firstLike_26 : decode cX0_firstLike 26 = .ok (.ireturn, 1) := by decide +kernel
theorem dX0_countAbsent_0 : decode cX0_countAbsent 0 = .ok (.iconst 0, 1) := by decide +kernel
theorem dX0_countAbsent_1 : decode cX0_countAbsent 1 = .ok (.istore_n 1, 1) := by decide +kernel
theorem dX0_countAbsent_2 : decode cX0_countAbsent 2 = .ok (.iconst 0, 1) := by decide +kernel
theorem dX0_countAbsent_3 : decode cX0_countAbsent 3 = .ok (.istore_n 2, 1) := by decide +kernel
theorem dX0_countAbsent_4 : decode cX0_countAbsent 4 = .ok (.iload_n 2, 1) := by decide +kernel
theorem dX0_countAbsent_5 : decode cX0_countAbsent 5 = .ok (.aload_n 0, 1) := by decide +kernel
theorem dX0_countAbsent_6 : decode cX0_countAbsent 6 = .ok (.getfield 31, 3) := by decide +kernel
theorem dX0_countAbsent_9 : decode cX0_countAbsent 9 = .ok (.if_icmp .ge 25, 3) := by decide +kernel
theorem dX0_countAbsent_12 : decode cX0_countAbsent 12 = .ok (.iload_n 1, 1) := by decide +kernel
theorem dX0_countAbsent_13 : decode cX0_countAbsent 13 = .ok (.aload_n 0, 1) := by decide +kernel
theorem dX0_countAbsent_14 : decode cX0_countAbsent 14 = .ok (.iload_n 2, 1) := by decide +kernel
theorem dX0_countAbsent_15 : decode cX0_countAbsent 15 = .ok (.invokevirtual 62, 3) := by decide +kernel
theorem dX0_countAbsent_18 : decode cX0_countAbsent 18 = .ok (.ifCond .eq 7, 3) := by decide +kernel
theorem dX0_countAbsent_21 : decode cX0_countAbsent 21 = .ok (.iconst 0, 1) := by decide +kernel
theorem dX0_countAbsent_22 : decode cX0_countAbsent 22 = .ok (.goto 4, 3) := by decide +kernel
theorem dX0_countAbsent_25 : decode cX0_countAbsent 25 = .ok (.iconst 1, 1) := by decide +kernel
theorem dX0_countAbsent_26 : decode cX0_countAbsent 26 = .ok (.iadd, 1) := by decide +kernel
theorem dX0_countAbsent_27 : decode cX0_countAbsent 27 = .ok (.istore_n 1, 1) := by decide +kernel
theorem dX0_countAbsent_28 : decode cX0_countAbsent 28 = .ok (.iinc 2 1, 3) := by decide +kernel
theorem dX0_countAbsent_31 : decode cX0_countAbsent 31 = .ok (.goto (-27), 3) := by decide +kernel
theorem dX0_countAbsent_34 : decode cX0_countAbsent 34 = .ok (.iload_n 1, 1) := by decide +kernel
theorem dX0_countAbsent_35 : decode cX0_countAbsent 35 = .ok (.ireturn, 1) := by decide +kernel
theorem dX0_countUnlike_0 : decode cX0_countUnlike 0 = .ok (.iconst 0, 1) := by decide +kernel
theorem dX0_countUnlike_1 : decode cX0_countUnlike 1 = .ok (.istore_n 1, 1) := by decide +kernel
theorem dX0_countUnlike_2 : decode cX0_countUnlike 2 = .ok (.iconst 0, 1) := by decide +kernel
theorem dX0_countUnlike_3 : decode cX0_countUnlike 3 = .ok (.istore_n 2, 1) := by decide +kernel
theorem dX0_countUnlike_4 : decode cX0_countUnlike 4 = .ok (.iload_n 2, 1) := by decide +kernel
theorem dX0_countUnlike_5 : decode cX0_countUnlike 5 = .ok (.aload_n 0, 1) := by decide +kernel
theorem dX0_countUnlike_6 : decode cX0_countUnlike 6 = .ok (.getfield 31, 3) := by decide +kernel
theorem dX0_countUnlike_9 : decode cX0_countUnlike 9 = .ok (.if_icmp .ge 34, 3) := by decide +kernel
theorem dX0_countUnlike_12 : decode cX0_countUnlike 12 = .ok (.iload_n 1, 1) := by decide +kernel
theorem dX0_countUnlike_13 : decode cX0_countUnlike 13 = .ok (.aload_n 0, 1) := by decide +kernel
theorem dX0_countUnlike_14 : decode cX0_countUnlike 14 = .ok (.iload_n 2, 1) := by decide +kernel
theorem dX0_countUnlike_15 : decode cX0_countUnlike 15 = .ok (.invokevirtual 62, 3) := by decide +kernel
theorem dX0_countUnlike_18 : decode cX0_countUnlike 18 = .ok (.ifCond .eq 16, 3) := by decide +kernel
theorem dX0_countUnlike_21 : decode cX0_countUnlike 21 = .ok (.aload_n 0, 1) := by decide +kernel
theorem dX0_countUnlike_22 : decode cX0_countUnlike 22 = .ok (.iload_n 2, 1) := by decide +kernel
theorem dX0_countUnlike_23 : decode cX0_countUnlike 23 = .ok (.invokevirtual 77, 3) := by decide +kernel
theorem dX0_countUnlike_26 : decode cX0_countUnlike 26 = .ok (.iload_n 2, 1) := by decide +kernel
theorem dX0_countUnlike_27 : decode cX0_countUnlike 27 = .ok (.if_icmp .ne 7, 3) := by decide +kernel
theorem dX0_countUnlike_30 : decode cX0_countUnlike 30 = .ok (.iconst 1, 1) := by decide +kernel
theorem dX0_countUnlike_31 : decode cX0_countUnlike 31 = .ok (.goto 4, 3) := by decide +kernel
theorem dX0_countUnlike_34 : decode cX0_countUnlike 34 = .ok (.iconst 0, 1) := by decide +kernel
theorem dX0_countUnlike_35 : decode cX0_countUnlike 35 = .ok (.iadd, 1) := by decide +kernel
theorem dX0_countUnlike_36 : decode cX0_countUnlike 36 = .ok (.istore_n 1, 1) := by decide +kernel
theorem dX0_countUnlike_37 : decode cX0_countUnlike 37 = .ok (.iinc 2 1, 3) := by decide +kernel
theorem dX0_countUnlike_40 : decode cX0_countUnlike 40 = .ok (.goto (-36), 3) := by decide +kernel
theorem dX0_countUnlike_43 : decode cX0_countUnlike 43 = .ok (.iload_n 1, 1) := by decide +kernel
theorem dX0_countUnlike_44 : decode cX0_countUnlike 44 = .ok (.ireturn, 1) := by decide +kernel
