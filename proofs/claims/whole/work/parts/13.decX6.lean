theorem dX6_init_0 : decode cX6_init 0 = .ok (.aload_n 0, 1) := by decide +kernel
theorem dX6_init_1 : decode cX6_init 1 = .ok (.invokespecial 1, 3) := by decide +kernel
theorem dX6_init_4 : decode cX6_init 4 = .ok (.aload_n 0, 1) := by decide +kernel
theorem dX6_init_5 : decode cX6_init 5 = .ok (.bipush 7, 2) := by decide +kernel
theorem dX6_init_7 : decode cX6_init 7 = .ok (.newarray .int, 2) := by decide +kernel
theorem dX6_init_9 : decode cX6_init 9 = .ok (.putfield 7, 3) := by decide +kernel
theorem dX6_init_12 : decode cX6_init 12 = .ok (.aload_n 0, 1) := by decide +kernel
theorem dX6_init_13 : decode cX6_init 13 = .ok (.bipush 7, 2) := by decide +kernel
theorem dX6_init_15 : decode cX6_init 15 = .ok (.newarray .boolean, 2) := by decide +kernel
theorem dX6_init_17 : decode cX6_init 17 = .ok (.putfield 13, 3) := by decide +kernel
theorem dX6_init_20 : decode cX6_init 20 = .ok (.aload_n 0, 1) := by decide +kernel
theorem dX6_init_21 : decode cX6_init 21 = .ok (.bipush 7, 2) := by decide +kernel
theorem dX6_init_23 : decode cX6_init 23 = .ok (.newarray .int, 2) := by decide +kernel
theorem dX6_init_25 : decode cX6_init 25 = .ok (.putfield 17, 3) := by decide +kernel
theorem dX6_init_28 : decode cX6_init 28 = .ok (.aload_n 0, 1) := by decide +kernel
theorem dX6_init_29 : decode cX6_init 29 = .ok (.sipush 1400, 3) := by decide +kernel
theorem dX6_init_32 : decode cX6_init 32 = .ok (.newarray .boolean, 2) := by decide +kernel
theorem dX6_init_34 : decode cX6_init 34 = .ok (.putfield 20, 3) := by decide +kernel
theorem dX6_init_37 : decode cX6_init 37 = .ok (.aload_n 0, 1) := by decide +kernel
theorem dX6_init_38 : decode cX6_init 38 = .ok (.sipush 1400, 3) := by decide +kernel
theorem dX6_init_41 : decode cX6_init 41 = .ok (.newarray .long, 2) := by decide +kernel
theorem dX6_init_43 : decode cX6_init 43 = .ok (.putfield 23, 3) := by decide +kernel
theorem dX6_init_46 : decode cX6_init 46 = .ok (.aload_n 0, 1) := by decide +kernel
theorem dX6_init_47 : decode cX6_init 47 = .ok (.ldc 27, 2) := by decide +kernel
theorem dX6_init_49 : decode cX6_init 49 = .ok (.newarray .byte, 2) := by decide +kernel
theorem dX6_init_51 : decode cX6_init 51 = .ok (.putfield 28, 3) := by decide +kernel
theorem dX6_init_54 : decode cX6_init 54 = .ok (.aload_n 0, 1) := by decide +kernel
theorem dX6_init_55 : decode cX6_init 55 = .ok (.bipush 40, 2) := by decide +kernel
theorem dX6_init_57 : decode cX6_init 57 = .ok (.newarray .byte, 2) := by decide +kernel
theorem dX6_init_59 : decode cX6_init 59 = .ok (.putfield 32, 3) := by decide +kernel
theorem dX6_init_62 : decode cX6_init 62 = .ok (.aload_n 0, 1) := by decide +kernel
theorem dX6_init_63 : decode cX6_init 63 = .ok (.sipush 12000, 3) := by decide +kernel
theorem dX6_init_66 : decode cX6_init 66 = .ok (.newarray .byte, 2) := by decide +kernel
theorem dX6_init_68 : decode cX6_init 68 = .ok (.putfield 35, 3) := by decide +kernel
theorem dX6_init_71 : decode cX6_init 71 = .ok (.aload_n 0, 1) := by decide +kernel
theorem dX6_init_72 : decode cX6_init 72 = .ok (.ldc 38, 2) := by decide +kernel
theorem dX6_init_74 : decode cX6_init 74 = .ok (.newarray .byte, 2) := by decide +kernel
theorem dX6_init_76 : decode cX6_init 76 = .ok (.putfield 39, 3) := by decide +kernel
theorem dX6_init_79 : decode cX6_init 79 = .ok (.aload_n 0, 1) := by decide +kernel
theorem dX6_init_80 : decode cX6_init 80 = .ok (.sipush 500, 3) := by decide +kernel
theorem dX6_init_83 : decode cX6_init 83 = .ok (.newarray .long, 2) := by decide +kernel
theorem dX6_init_85 : decode cX6_init 85 = .ok (.putfield 42, 3) := by decide +kernel
theorem dX6_init_88 : decode cX6_init 88 = .ok (.aload_n 0, 1) := by decide +kernel
theorem dX6_init_89 : decode cX6_init 89 = .ok (.sipush 500, 3) := by decide +kernel
theorem dX6_init_92 : decode cX6_init 92 = .ok (.newarray .long, 2) := by decide +kernel
theorem dX6_init_94 : decode cX6_init 94 = .ok (.putfield 45, 3) := by decide +kernel
theorem dX6_init_97 : decode cX6_init 97 = .ok (.aload_n 0, 1) := by decide +kernel
theorem dX6_init_98 : decode cX6_init 98 = .ok (.sipush 200, 3) := by decide +kernel
theorem dX6_init_101 : decode cX6_init 101 = .ok (.newarray .int, 2) := by decide +kernel
theorem dX6_init_103 : decode cX6_init 103 = .ok (.putfield 48, 3) := by decide +kernel
theorem dX6_init_106 : decode cX6_init 106 = .ok (.aload_n 0, 1) := by decide +kernel
theorem dX6_init_107 : decode cX6_init 107 = .ok (.sipush 20000, 3) := by decide +kernel
theorem dX6_init_110 : decode cX6_init 110 = .ok (.newarray .byte, 2) := by decide +kernel
theorem dX6_init_112 : decode cX6_init 112 = .ok (.putfield 51, 3) := by decide +kernel
theorem dX6_init_115 : decode cX6_init 115 = .ok (.aload_n 0, 1) := by decide +kernel
theorem dX6_init_116 : decode cX6_init 116 = .ok (.iconst 4, 1) := by decide +kernel
theorem dX6_init_117 : decode cX6_init 117 = .ok (.newarray .int, 2) := by decide +kernel
theorem dX6_init_119 : decode cX6_init 119 = .ok (.putfield 54, 3) := by decide +kernel
theorem dX6_init_122 : decode cX6_init 122 = .ok (.aload_n 0, 1) := by decide +kernel
theorem dX6_init_123 : decode cX6_init 123 = .ok (.sipush 200, 3) := by decide +kernel
theorem dX6_init_126 : decode cX6_init 126 = .ok (.newarray .boolean, 2) := by decide +kernel
theorem dX6_init_128 : decode cX6_init 128 = .ok (.putfield 57, 3) := by decide +kernel
theorem dX6_init_131 : decode cX6_init 131 = .ok (.return_, 1) := by decide +kernel
theorem dX6_in_0 : decode cX6_in 0 = .ok (.lload_n 0, 1) := by decide +kernel
theorem dX6_in_1 : decode cX6_in 1 = .ok (.lload_n 2, 1) := by decide +kernel
theorem dX6_in_2 : decode cX6_in 2 = .ok (.lcmp, 1) := by decide +kernel
theorem dX6_in_3 : decode cX6_in 3 = .ok (.ifCond .lt 14, 3) := by decide +kernel
theorem dX6_in_6 : decode cX6_in 6 = .ok (.lload_n 0, 1) := by decide +kernel
theorem dX6_in_7 : decode cX6_in 7 = .ok (.lload 4, 2) := by decide +kernel
theorem dX6_in_9 : decode cX6_in 9 = .ok (.lcmp, 1) := by decide +kernel
theorem dX6_in_10 : decode cX6_in 10 = .ok (.ifCond .gt 7, 3) := by decide +kernel
theorem dX6_in_13 : decode cX6_in 13 = .ok (.iconst 1, 1) := by decide +kernel
theorem dX6_in_14 : decode cX6_in 14 = .ok (.goto 4, 3) := by decide +kernel
theorem dX6_in_17 : decode cX6_in 17 = .ok (.iconst 0, 1) := by decide +kernel
theorem dX6_in_18 : decode cX6_in 18 = .ok (.ireturn, 1) := by decide +kernel
theorem dX6_isColumn_0 : decode cX6_isColumn 0 = .ok (.iload_n 0, 1) := by decide +kernel
theorem dX6_isColumn_1 : decode cX6_isColumn 1 = .ok (.i2l, 1) := by decide +kernel
theorem dX6_isColumn_2 : decode cX6_isColumn 2 = .ok (.lconst 0, 1) := by decide +kernel
theorem dX6_isColumn_3 : decode cX6_isColumn 3 = .ok (.ldc2_w 60, 3) := by decide +kernel
theorem dX6_isColumn_6 : decode cX6_isColumn 6 = .ok (.invokestatic 62, 3) := by decide +kernel
theorem dX6_isColumn_9 : decode cX6_isColumn 9 = .ok (.ireturn, 1) := by decide +kernel
theorem dX6_column_0 : decode cX6_column 0 = .ok (.iload_n 1, 1) := by decide +kernel
theorem dX6_column_1 : decode cX6_column 1 = .ok (.invokestatic 66, 3) := by decide +kernel
theorem dX6_column_4 : decode cX6_column 4 = .ok (.ifCond .eq 15, 3) := by decide +kernel
theorem dX6_column_7 : decode cX6_column 7 = .ok (.iload_n 2, 1) := by decide +kernel
theorem dX6_column_8 : decode cX6_column 8 = .ok (.i2l, 1) := by decide +kernel
theorem dX6_column_9 : decode cX6_column 9 = .ok (.lconst 0, 1) := by decide +kernel
theorem dX6_column_10 : decode cX6_column 10 = .ok (.ldc2_w 60, 3) := by decide +kernel
theorem dX6_column_13 : decode cX6_column 13 = .ok (.invokestatic 62, 3) := by decide +kernel
theorem dX6_column_16 : decode cX6_column 16 = .ok (.ifCond .ne 5, 3) := by decide +kernel
theorem dX6_column_19 : decode cX6_column 19 = .ok (.iconst (-1), 1) := by decide +kernel
theorem dX6_column_20 : decode cX6_column 20 = .ok (.ireturn, 1) := by decide +kernel
theorem dX6_column_21 : decode cX6_column 21 = .ok (.aload_n 0, 1) := by decide +kernel
theorem dX6_column_22 : decode cX6_column 22 = .ok (.getfield 17, 3) := by decide +kernel
theorem dX6_column_25 : decode cX6_column 25 = .ok (.iload_n 1, 1) := by decide +kernel
theorem dX6_column_26 : decode cX6_column 26 = .ok (.iaload, 1) := by decide +kernel
theorem dX6_column_27 : decode cX6_column 27 = .ok (.istore 4, 2) := by decide +kernel
theorem dX6_column_29 : decode cX6_column 29 = .ok (.aload_n 0, 1) := by decide +kernel
theorem dX6_column_30 : decode cX6_column 30 = .ok (.getfield 7, 3) := by decide +kernel
theorem dX6_column_33 : decode cX6_column 33 = .ok (.iload_n 1, 1) := by decide +kernel
theorem dX6_column_34 : decode cX6_column 34 = .ok (.iload_n 2, 1) := by decide +kernel
theorem dX6_column_35 : decode cX6_column 35 = .ok (.iastore, 1) := by decide +kernel
theorem dX6_column_36 : decode cX6_column 36 = .ok (.aload_n 0, 1) := by decide +kernel
theorem dX6_column_37 : decode cX6_column 37 = .ok (.getfield 13, 3) := by decide +kernel
theorem dX6_column_40 : decode cX6_column 40 = .ok (.iload_n 1, 1) := by decide +kernel
theorem dX6_column_41 : decode cX6_column 41 = .ok (.iload_n 3, 1) := by decide +kernel
theorem dX6_column_42 : decode cX6_column 42 = .ok (.bastore, 1) := by decide +kernel
theorem dX6_column_43 : decode cX6_column 43 = .ok (.aload_n 0, 1) := by decide +kernel
theorem dX6_column_44 : decode cX6_column 44 = .ok (.getfield 17, 3) := by decide +kernel
theorem dX6_column_47 : decode cX6_column 47 = .ok (.iload_n 1, 1) := by decide +kernel
theorem dX6_column_48 : decode cX6_column 48 = .ok (.iconst 0, 1) := by decide +kernel
theorem dX6_column_49 : decode cX6_column 49 = .ok (.iastore, 1) := by decide +kernel
theorem dX6_column_50 : decode cX6_column 50 = .ok (.iload 4, 2) := by decide +kernel
theorem dX6_column_52 : decode cX6_column 52 = .ok (.ireturn, 1) := by decide +kernel
theorem dX6_adds_0 : decode cX6_adds 0 = .ok (.sipush 200, 3) := by decide +kernel
theorem dX6_adds_3 : decode cX6_adds 3 = .ok (.iload_n 1, 1) := by decide +kernel
theorem dX6_adds_4 : decode cX6_adds 4 = .ok (.imul, 1) := by decide +kernel
theorem dX6_adds_5 : decode cX6_adds 5 = .ok (.aload_n 0, 1) := by decide +kernel
theorem dX6_adds_6 : decode cX6_adds 6 = .ok (.getfield 17, 3) := by decide +kernel
theorem dX6_adds_9 : decode cX6_adds 9 = .ok (.iload_n 1, 1) := by decide +kernel
theorem dX6_adds_10 : decode cX6_adds 10 = .ok (.iaload, 1) := by decide +kernel
theorem dX6_adds_11 : decode cX6_adds 11 = .ok (.iadd, 1) := by decide +kernel
theorem dX6_adds_12 : decode cX6_adds 12 = .ok (.istore 5, 2) := by decide +kernel
theorem dX6_adds_14 : decode cX6_adds 14 = .ok (.aload_n 0, 1) := by decide +kernel
theorem dX6_adds_15 : decode cX6_adds 15 = .ok (.getfield 20, 3) := by decide +kernel
theorem dX6_adds_18 : decode cX6_adds 18 = .ok (.iload 5, 2) := by decide +kernel
theorem dX6_adds_20 : decode cX6_adds 20 = .ok (.iload_n 2, 1) := by decide +kernel
theorem dX6_adds_21 : decode cX6_adds 21 = .ok (.bastore, 1) := by decide +kernel
theorem dX6_adds_22 : decode cX6_adds 22 = .ok (.aload_n 0, 1) := by decide +kernel
theorem dX6_adds_23 : decode cX6_adds 23 = .ok (.getfield 23, 3) := by decide +kernel
theorem dX6_adds_26 : decode cX6_adds 26 = .ok (.iload 5, 2) := by decide +kernel
theorem dX6_adds_28 : decode cX6_adds 28 = .ok (.lload_n 3, 1) := by decide +kernel
theorem dX6_adds_29 : decode cX6_adds 29 = .ok (.lastore, 1) := by decide +kernel
theorem dX6_adds_30 : decode cX6_adds 30 = .ok (.iconst 0, 1) := by decide +kernel
theorem dX6_adds_31 : decode cX6_adds 31 = .ok (.istore 6, 2) := by decide +kernel
theorem dX6_adds_33 : decode cX6_adds 33 = .ok (.iload 6, 2) := by decide +kernel
theorem dX6_adds_35 : decode cX6_adds 35 = .ok (.bipush 40, 2) := by decide +kernel
theorem dX6_adds_37 : decode cX6_adds 37 = .ok (.if_icmp .ge 23, 3) := by decide +kernel
theorem dX6_adds_40 : decode cX6_adds 40 = .ok (.aload_n 0, 1) := by decide +kernel
theorem dX6_adds_41 : decode cX6_adds 41 = .ok (.getfield 28, 3) := by decide +kernel
theorem dX6_adds_44 : decode cX6_adds 44 = .ok (.bipush 40, 2) := by decide +kernel
theorem dX6_adds_46 : decode cX6_adds 46 = .ok (.iload 5, 2) := by decide +kernel
theorem dX6_adds_48 : decode cX6_adds 48 = .ok (.imul, 1) := by decide +kernel
theorem dX6_adds_49 : decode cX6_adds 49 = .ok (.iload 6, 2) := by decide +kernel
theorem dX6_adds_51 : decode cX6_adds 51 = .ok (.iadd, 1) := by decide +kernel
theorem dX6_adds_52 : decode cX6_adds 52 = .ok (.iconst 0, 1) := by decide +kernel
theorem dX6_adds_53 : decode cX6_adds 53 = .ok (.bastore, 1) := by decide +kernel
theorem dX6_adds_54 : decode cX6_adds 54 = .ok (.iinc 6 1, 3) := by decide +kernel
theorem dX6_adds_57 : decode cX6_adds 57 = .ok (.goto (-24), 3) := by decide +kernel
theorem dX6_adds_60 : decode cX6_adds 60 = .ok (.aload_n 0, 1) := by decide +kernel
theorem dX6_adds_61 : decode cX6_adds 61 = .ok (.getfield 17, 3) := by decide +kernel
theorem dX6_adds_64 : decode cX6_adds 64 = .ok (.iload_n 1, 1) := by decide +kernel
theorem dX6_adds_65 : decode cX6_adds 65 = .ok (.dup2, 1) := by decide +kernel
theorem dX6_adds_66 : decode cX6_adds 66 = .ok (.iaload, 1) := by decide +kernel
theorem dX6_adds_67 : decode cX6_adds 67 = .ok (.iconst 1, 1) := by decide +kernel
theorem dX6_adds_68 : decode cX6_adds 68 = .ok (.iadd, 1) := by decide +kernel
theorem dX6_adds_69 : decode cX6_adds 69 = .ok (.iastore, 1) := by decide +kernel
theorem dX6_adds_70 : decode cX6_adds 70 = .ok (.aload_n 0, 1) := by decide +kernel
theorem dX6_adds_71 : decode cX6_adds 71 = .ok (.getfield 17, 3) := by decide +kernel
theorem dX6_adds_74 : decode cX6_adds 74 = .ok (.iload_n 1, 1) := by decide +kernel
theorem dX6_adds_75 : decode cX6_adds 75 = .ok (.iaload, 1) := by decide +kernel
theorem dX6_adds_76 : decode cX6_adds 76 = .ok (.iconst 1, 1) := by decide +kernel
theorem dX6_adds_77 : decode cX6_adds 77 = .ok (.isub, 1) := by decide +kernel
theorem dX6_adds_78 : decode cX6_adds 78 = .ok (.ireturn, 1) := by decide +kernel
theorem dX6_add_0 : decode cX6_add 0 = .ok (.iload_n 1, 1) := by decide +kernel
theorem dX6_add_1 : decode cX6_add 1 = .ok (.invokestatic 66, 3) := by decide +kernel
theorem dX6_add_4 : decode cX6_add 4 = .ok (.ifCond .ne 5, 3) := by decide +kernel
theorem dX6_add_7 : decode cX6_add 7 = .ok (.iconst (-1), 1) := by decide +kernel
theorem dX6_add_8 : decode cX6_add 8 = .ok (.ireturn, 1) := by decide +kernel
theorem dX6_add_9 : decode cX6_add 9 = .ok (.aload_n 0, 1) := by decide +kernel
theorem dX6_add_10 : decode cX6_add 10 = .ok (.getfield 7, 3) := by decide +kernel
theorem dX6_add_13 : decode cX6_add 13 = .ok (.iload_n 1, 1) := by decide +kernel
theorem dX6_add_14 : decode cX6_add 14 = .ok (.iaload, 1) := by decide +kernel
theorem dX6_add_15 : decode cX6_add 15 = .ok (.iconst 2, 1) := by decide +kernel
theorem dX6_add_16 : decode cX6_add 16 = .ok (.if_icmp .ne 6, 3) := by decide +kernel
theorem dX6_add_19 : decode cX6_add 19 = .ok (.bipush (-2), 2) := by decide +kernel
theorem dX6_add_21 : decode cX6_add 21 = .ok (.ireturn, 1) := by decide +kernel
theorem dX6_add_22 : decode cX6_add 22 = .ok (.aload_n 0, 1) := by decide +kernel
theorem dX6_add_23 : decode cX6_add 23 = .ok (.getfield 17, 3) := by decide +kernel
theorem dX6_add_26 : decode cX6_add 26 = .ok (.iload_n 1, 1) := by decide +kernel
theorem dX6_add_27 : decode cX6_add 27 = .ok (.iaload, 1) := by decide +kernel
theorem dX6_add_28 : decode cX6_add 28 = .ok (.sipush 200, 3) := by decide +kernel
theorem dX6_add_31 : decode cX6_add 31 = .ok (.if_icmp .ne 6, 3) := by decide +kernel
theorem dX6_add_34 : decode cX6_add 34 = .ok (.bipush (-3), 2) := by decide +kernel
theorem dX6_add_36 : decode cX6_add 36 = .ok (.ireturn, 1) := by decide +kernel
theorem dX6_add_37 : decode cX6_add 37 = .ok (.aload_n 0, 1) := by decide +kernel
theorem dX6_add_38 : decode cX6_add 38 = .ok (.iload_n 1, 1) := by decide +kernel
theorem dX6_add_39 : decode cX6_add 39 = .ok (.iconst 1, 1) := by decide +kernel
theorem dX6_add_40 : decode cX6_add 40 = .ok (.aload_n 0, 1) := by decide +kernel
theorem dX6_add_41 : decode cX6_add 41 = .ok (.getfield 7, 3) := by decide +kernel
theorem dX6_add_44 : decode cX6_add 44 = .ok (.iload_n 1, 1) := by decide +kernel
theorem dX6_add_45 : decode cX6_add 45 = .ok (.iaload, 1) := by decide +kernel
theorem dX6_add_46 : decode cX6_add 46 = .ok (.ifCond .ne 9, 3) := by decide +kernel
theorem dX6_add_49 : decode cX6_add 49 = .ok (.lload_n 2, 1) := by decide +kernel
theorem dX6_add_50 : decode cX6_add 50 = .ok (.l2i, 1) := by decide +kernel
theorem dX6_add_51 : decode cX6_add 51 = .ok (.i2l, 1) := by decide +kernel
theorem dX6_add_52 : decode cX6_add 52 = .ok (.goto 28, 3) := by decide +kernel
theorem dX6_add_55 : decode cX6_add 55 = .ok (.aload_n 0, 1) := by decide +kernel
theorem dX6_add_56 : decode cX6_add 56 = .ok (.getfield 7, 3) := by decide +kernel
theorem dX6_add_59 : decode cX6_add 59 = .ok (.iload_n 1, 1) := by decide +kernel
theorem dX6_add_60 : decode cX6_add 60 = .ok (.iaload, 1) := by decide +kernel
theorem dX6_add_61 : decode cX6_add 61 = .ok (.iconst 3, 1) := by decide +kernel
theorem dX6_add_62 : decode cX6_add 62 = .ok (.if_icmp .ne 17, 3) := by decide +kernel
theorem dX6_add_65 : decode cX6_add 65 = .ok (.lload_n 2, 1) := by decide +kernel
theorem dX6_add_66 : decode cX6_add 66 = .ok (.lconst 0, 1) := by decide +kernel
theorem dX6_add_67 : decode cX6_add 67 = .ok (.lcmp, 1) := by decide +kernel
theorem dX6_add_68 : decode cX6_add 68 = .ok (.ifCond .eq 7, 3) := by decide +kernel
theorem dX6_add_71 : decode cX6_add 71 = .ok (.lconst 1, 1) := by decide +kernel
theorem dX6_add_72 : decode cX6_add 72 = .ok (.goto 8, 3) := by decide +kernel
theorem dX6_add_75 : decode cX6_add 75 = .ok (.lconst 0, 1) := by decide +kernel
theorem dX6_add_76 : decode cX6_add 76 = .ok (.goto 4, 3) := by decide +kernel
theorem dX6_add_79 : decode cX6_add 79 = .ok (.lload_n 2, 1) := by decide +kernel
theorem dX6_add_80 : decode cX6_add 80 = .ok (.invokevirtual 70, 3) := by decide +kernel
theorem dX6_add_83 : decode cX6_add 83 = .ok (.ireturn, 1) := by decide +kernel
theorem dX6_type_0 : decode cX6_type 0 = .ok (.iload_n 3, 1) := by decide +kernel
theorem dX6_type_1 : decode cX6_type 1 = .ok (.i2l, 1) := by decide +kernel
theorem dX6_type_2 : decode cX6_type 2 = .ok (.lconst 1, 1) := by decide +kernel
theorem dX6_type_3 : decode cX6_type 3 = .ok (.ldc2_w 74, 3) := by decide +kernel
theorem dX6_type_6 : decode cX6_type 6 = .ok (.invokestatic 62, 3) := by decide +kernel
theorem dX6_type_9 : decode cX6_type 9 = .ok (.ifCond .ne 5, 3) := by decide +kernel
theorem dX6_type_12 : decode cX6_type 12 = .ok (.iconst (-1), 1) := by decide +kernel
theorem dX6_type_13 : decode cX6_type 13 = .ok (.ireturn, 1) := by decide +kernel
theorem dX6_type_14 : decode cX6_type 14 = .ok (.aload_n 0, 1) := by decide +kernel
theorem dX6_type_15 : decode cX6_type 15 = .ok (.getfield 76, 3) := by decide +kernel
theorem dX6_type_18 : decode cX6_type 18 = .ok (.iload_n 3, 1) := by decide +kernel
theorem dX6_type_19 : decode cX6_type 19 = .ok (.iadd, 1) := by decide +kernel
theorem dX6_type_20 : decode cX6_type 20 = .ok (.bipush 40, 2) := by decide +kernel
theorem dX6_type_22 : decode cX6_type 22 = .ok (.if_icmp .le 6, 3) := by decide +kernel
theorem dX6_type_25 : decode cX6_type 25 = .ok (.bipush (-3), 2) := by decide +kernel
theorem dX6_type_27 : decode cX6_type 27 = .ok (.ireturn, 1) := by decide +kernel
theorem dX6_type_28 : decode cX6_type 28 = .ok (.iload_n 3, 1) := by decide +kernel
theorem dX6_type_29 : decode cX6_type 29 = .ok (.iconst 1, 1) := by decide +kernel
theorem dX6_type_30 : decode cX6_type 30 = .ok (.isub, 1) := by decide +kernel
theorem dX6_type_31 : decode cX6_type 31 = .ok (.istore 4, 2) := by decide +kernel
theorem dX6_type_33 : decode cX6_type 33 = .ok (.iload 4, 2) := by decide +kernel
theorem dX6_type_35 : decode cX6_type 35 = .ok (.ifCond .lt 37, 3) := by decide +kernel
theorem dX6_type_38 : decode cX6_type 38 = .ok (.aload_n 0, 1) := by decide +kernel
theorem dX6_type_39 : decode cX6_type 39 = .ok (.getfield 32, 3) := by decide +kernel
theorem dX6_type_42 : decode cX6_type 42 = .ok (.aload_n 0, 1) := by decide +kernel
theorem dX6_type_43 : decode cX6_type 43 = .ok (.getfield 76, 3) := by decide +kernel
theorem dX6_type_46 : decode cX6_type 46 = .ok (.lload_n 1, 1) := by decide +kernel
theorem dX6_type_47 : decode cX6_type 47 = .ok (.bipush 8, 2) := by decide +kernel
theorem dX6_type_49 : decode cX6_type 49 = .ok (.iload 4, 2) := by decide +kernel
theorem dX6_type_51 : decode cX6_type 51 = .ok (.imul, 1) := by decide +kernel
theorem dX6_type_52 : decode cX6_type 52 = .ok (.lshr, 1) := by decide +kernel
theorem dX6_type_53 : decode cX6_type 53 = .ok (.l2i, 1) := by decide +kernel
theorem dX6_type_54 : decode cX6_type 54 = .ok (.i2b, 1) := by decide +kernel
theorem dX6_type_55 : decode cX6_type 55 = .ok (.bastore, 1) := by decide +kernel
theorem dX6_type_56 : decode cX6_type 56 = .ok (.aload_n 0, 1) := by decide +kernel
theorem dX6_type_57 : decode cX6_type 57 = .ok (.dup, 1) := by decide +kernel
theorem dX6_type_58 : decode cX6_type 58 = .ok (.getfield 76, 3) := by decide +kernel
theorem dX6_type_61 : decode cX6_type 61 = .ok (.iconst 1, 1) := by decide +kernel
theorem dX6_type_62 : decode cX6_type 62 = .ok (.iadd, 1) := by decide +kernel
theorem dX6_type_63 : decode cX6_type 63 = .ok (.putfield 76, 3) := by decide +kernel
theorem dX6_type_66 : decode cX6_type 66 = .ok (.iinc 4 (-1), 3) := by decide +kernel
theorem dX6_type_69 : decode cX6_type 69 = .ok (.goto (-36), 3) := by decide +kernel
theorem dX6_type_72 : decode cX6_type 72 = .ok (.aload_n 0, 1) := by decide +kernel
theorem dX6_type_73 : decode cX6_type 73 = .ok (.getfield 76, 3) := by decide +kernel
theorem dX6_type_76 : decode cX6_type 76 = .ok (.ireturn, 1) := by decide +kernel
theorem dX6_addText_0 : decode cX6_addText 0 = .ok (.iload_n 1, 1) := by decide +kernel
theorem dX6_addText_1 : decode cX6_addText 1 = .ok (.invokestatic 66, 3) := by decide +kernel
theorem dX6_addText_4 : decode cX6_addText 4 = .ok (.ifCond .ne 5, 3) := by decide +kernel
theorem dX6_addText_7 : decode cX6_addText 7 = .ok (.iconst (-1), 1) := by decide +kernel
theorem dX6_addText_8 : decode cX6_addText 8 = .ok (.ireturn, 1) := by decide +kernel
theorem dX6_addText_9 : decode cX6_addText 9 = .ok (.aload_n 0, 1) := by decide +kernel
theorem dX6_addText_10 : decode cX6_addText 10 = .ok (.getfield 7, 3) := by decide +kernel
theorem dX6_addText_13 : decode cX6_addText 13 = .ok (.iload_n 1, 1) := by decide +kernel
theorem dX6_addText_14 : decode cX6_addText 14 = .ok (.iaload, 1) := by decide +kernel
theorem dX6_addText_15 : decode cX6_addText 15 = .ok (.iconst 2, 1) := by decide +kernel
theorem dX6_addText_16 : decode cX6_addText 16 = .ok (.if_icmp .eq 6, 3) := by decide +kernel
theorem dX6_addText_19 : decode cX6_addText 19 = .ok (.bipush (-2), 2) := by decide +kernel
theorem dX6_addText_21 : decode cX6_addText 21 = .ok (.ireturn, 1) := by decide +kernel
theorem dX6_addText_22 : decode cX6_addText 22 = .ok (.aload_n 0, 1) := by decide +kernel
theorem dX6_addText_23 : decode cX6_addText 23 = .ok (.getfield 17, 3) := by decide +kernel
theorem dX6_addText_26 : decode cX6_addText 26 = .ok (.iload_n 1, 1) := by decide +kernel
theorem dX6_addText_27 : decode cX6_addText 27 = .ok (.iaload, 1) := by decide +kernel
theorem dX6_addText_28 : decode cX6_addText 28 = .ok (.sipush 200, 3) := by decide +kernel
theorem dX6_addText_31 : decode cX6_addText 31 = .ok (.if_icmp .ne 6, 3) := by decide +kernel
theorem dX6_addText_34 : decode cX6_addText 34 = .ok (.bipush (-3), 2) := by decide +kernel
theorem dX6_addText_36 : decode cX6_addText 36 = .ok (.ireturn, 1) := by decide +kernel
theorem dX6_addText_37 : decode cX6_addText 37 = .ok (.aload_n 0, 1) := by decide +kernel
theorem dX6_addText_38 : decode cX6_addText 38 = .ok (.iload_n 1, 1) := by decide +kernel
theorem dX6_addText_39 : decode cX6_addText 39 = .ok (.iconst 1, 1) := by decide +kernel
theorem dX6_addText_40 : decode cX6_addText 40 = .ok (.aload_n 0, 1) := by decide +kernel
theorem dX6_addText_41 : decode cX6_addText 41 = .ok (.getfield 76, 3) := by decide +kernel
theorem dX6_addText_44 : decode cX6_addText 44 = .ok (.i2l, 1) := by decide +kernel
theorem dX6_addText_45 : decode cX6_addText 45 = .ok (.invokevirtual 70, 3) := by decide +kernel
theorem dX6_addText_48 : decode cX6_addText 48 = .ok (.istore_n 2, 1) := by decide +kernel
theorem dX6_addText_49 : decode cX6_addText 49 = .ok (.iconst 0, 1) := by decide +kernel
theorem dX6_addText_50 : decode cX6_addText 50 = .ok (.istore_n 3, 1) := by decide +kernel
theorem dX6_addText_51 : decode cX6_addText 51 = .ok (.iload_n 3, 1) := by decide +kernel
theorem dX6_addText_52 : decode cX6_addText 52 = .ok (.aload_n 0, 1) := by decide +kernel
theorem dX6_addText_53 : decode cX6_addText 53 = .ok (.getfield 76, 3) := by decide +kernel
theorem dX6_addText_56 : decode cX6_addText 56 = .ok (.if_icmp .ge 32, 3) := by decide +kernel
theorem dX6_addText_59 : decode cX6_addText 59 = .ok (.aload_n 0, 1) := by decide +kernel
theorem dX6_addText_60 : decode cX6_addText 60 = .ok (.getfield 28, 3) := by decide +kernel
theorem dX6_addText_63 : decode cX6_addText 63 = .ok (.bipush 40, 2) := by decide +kernel
theorem dX6_addText_65 : decode cX6_addText 65 = .ok (.sipush 200, 3) := by decide +kernel
theorem dX6_addText_68 : decode cX6_addText 68 = .ok (.iload_n 1, 1) := by decide +kernel
theorem dX6_addText_69 : decode cX6_addText 69 = .ok (.imul, 1) := by decide +kernel
theorem dX6_addText_70 : decode cX6_addText 70 = .ok (.iload_n 2, 1) := by decide +kernel
theorem dX6_addText_71 : decode cX6_addText 71 = .ok (.iadd, 1) := by decide +kernel
theorem dX6_addText_72 : decode cX6_addText 72 = .ok (.imul, 1) := by decide +kernel
theorem dX6_addText_73 : decode cX6_addText 73 = .ok (.iload_n 3, 1) := by decide +kernel
theorem dX6_addText_74 : decode cX6_addText 74 = .ok (.iadd, 1) := by decide +kernel
theorem dX6_addText_75 : decode cX6_addText 75 = .ok (.aload_n 0, 1) := by decide +kernel
theorem dX6_addText_76 : decode cX6_addText 76 = .ok (.getfield 32, 3) := by decide +kernel
theorem dX6_addText_79 : decode cX6_addText 79 = .ok (.iload_n 3, 1) := by decide +kernel
theorem dX6_addText_80 : decode cX6_addText 80 = .ok (.baload, 1) := by decide +kernel
theorem dX6_addText_81 : decode cX6_addText 81 = .ok (.bastore, 1) := by decide +kernel
theorem dX6_addText_82 : decode cX6_addText 82 = .ok (.iinc 3 1, 3) := by decide +kernel
theorem dX6_addText_85 : decode cX6_addText 85 = .ok (.goto (-34), 3) := by decide +kernel
theorem dX6_addText_88 : decode cX6_addText 88 = .ok (.aload_n 0, 1) := by decide +kernel
theorem dX6_addText_89 : decode cX6_addText 89 = .ok (.iconst 0, 1) := by decide +kernel
theorem dX6_addText_90 : decode cX6_addText 90 = .ok (.putfield 76, 3) := by decide +kernel
theorem dX6_addText_93 : decode cX6_addText 93 = .ok (.iload_n 2, 1) := by decide +kernel
theorem dX6_addText_94 : decode cX6_addText 94 = .ok (.ireturn, 1) := by decide +kernel
theorem dX6_addNone_0 : decode cX6_addNone 0 = .ok (.iload_n 1, 1) := by decide +kernel
theorem dX6_addNone_1 : decode cX6_addNone 1 = .ok (.invokestatic 66, 3) := by decide +kernel
theorem dX6_addNone_4 : decode cX6_addNone 4 = .ok (.ifCond .ne 5, 3) := by decide +kernel
theorem dX6_addNone_7 : decode cX6_addNone 7 = .ok (.iconst (-1), 1) := by decide +kernel
theorem dX6_addNone_8 : decode cX6_addNone 8 = .ok (.ireturn, 1) := by decide +kernel
theorem dX6_addNone_9 : decode cX6_addNone 9 = .ok (.aload_n 0, 1) := by decide +kernel
theorem dX6_addNone_10 : decode cX6_addNone 10 = .ok (.getfield 13, 3) := by decide +kernel
theorem dX6_addNone_13 : decode cX6_addNone 13 = .ok (.iload_n 1, 1) := by decide +kernel
theorem dX6_addNone_14 : decode cX6_addNone 14 = .ok (.baload, 1) := by decide +kernel
theorem dX6_addNone_15 : decode cX6_addNone 15 = .ok (.ifCond .ne 6, 3) := by decide +kernel
theorem dX6_addNone_18 : decode cX6_addNone 18 = .ok (.bipush (-2), 2) := by decide +kernel
theorem dX6_addNone_20 : decode cX6_addNone 20 = .ok (.ireturn, 1) := by decide +kernel
theorem dX6_addNone_21 : decode cX6_addNone 21 = .ok (.aload_n 0, 1) := by decide +kernel
theorem dX6_addNone_22 : decode cX6_addNone 22 = .ok (.getfield 17, 3) := by decide +kernel
theorem dX6_addNone_25 : decode cX6_addNone 25 = .ok (.iload_n 1, 1) := by decide +kernel
theorem dX6_addNone_26 : decode cX6_addNone 26 = .ok (.iaload, 1) := by decide +kernel
theorem dX6_addNone_27 : decode cX6_addNone 27 = .ok (.sipush 200, 3) := by decide +kernel
theorem dX6_addNone_30 : decode cX6_addNone 30 = .ok (.if_icmp .ne 8, 3) := by decide +kernel
theorem dX6_addNone_33 : decode cX6_addNone 33 = .ok (.bipush (-3), 2) := by decide +kernel
theorem dX6_addNone_35 : decode cX6_addNone 35 = .ok (.goto 10, 3) := by decide +kernel
theorem dX6_addNone_38 : decode cX6_addNone 38 = .ok (.aload_n 0, 1) := by decide +kernel
theorem dX6_addNone_39 : decode cX6_addNone 39 = .ok (.iload_n 1, 1) := by decide +kernel
theorem dX6_addNone_40 : decode cX6_addNone 40 = .ok (.iconst 0, 1) := by decide +kernel
theorem dX6_addNone_41 : decode cX6_addNone 41 = .ok (.lconst 0, 1) := by decide +kernel
theorem dX6_addNone_42 : decode cX6_addNone 42 = .ok (.invokevirtual 70, 3) := by decide +kernel
theorem dX6_addNone_45 : decode cX6_addNone 45 = .ok (.ireturn, 1) := by decide +kernel
theorem dX6_copies_0 : decode cX6_copies 0 = .ok (.aload_n 0, 1) := by decide +kernel
theorem dX6_copies_1 : decode cX6_copies 1 = .ok (.getfield 20, 3) := by decide +kernel
theorem dX6_copies_4 : decode cX6_copies 4 = .ok (.iload_n 1, 1) := by decide +kernel
theorem dX6_copies_5 : decode cX6_copies 5 = .ok (.aload_n 0, 1) := by decide +kernel
theorem dX6_copies_6 : decode cX6_copies 6 = .ok (.getfield 20, 3) := by decide +kernel
theorem dX6_copies_9 : decode cX6_copies 9 = .ok (.iload_n 2, 1) := by decide +kernel
theorem dX6_copies_10 : decode cX6_copies 10 = .ok (.baload, 1) := by decide +kernel
theorem dX6_copies_11 : decode cX6_copies 11 = .ok (.bastore, 1) := by decide +kernel
theorem dX6_copies_12 : decode cX6_copies 12 = .ok (.aload_n 0, 1) := by decide +kernel
theorem dX6_copies_13 : decode cX6_copies 13 = .ok (.getfield 23, 3) := by decide +kernel
theorem dX6_copies_16 : decode cX6_copies 16 = .ok (.iload_n 1, 1) := by decide +kernel
theorem dX6_copies_17 : decode cX6_copies 17 = .ok (.aload_n 0, 1) := by decide +kernel
theorem dX6_copies_18 : decode cX6_copies 18 = .ok (.getfield 23, 3) := by decide +kernel
theorem dX6_copies_21 : decode cX6_copies 21 = .ok (.iload_n 2, 1) := by decide +kernel
theorem dX6_copies_22 : decode cX6_copies 22 = .ok (.laload, 1) := by decide +kernel
theorem dX6_copies_23 : decode cX6_copies 23 = .ok (.lastore, 1) := by decide +kernel
theorem dX6_copies_24 : decode cX6_copies 24 = .ok (.iconst 0, 1) := by decide +kernel
theorem dX6_copies_25 : decode cX6_copies 25 = .ok (.istore_n 3, 1) := by decide +kernel
theorem dX6_copies_26 : decode cX6_copies 26 = .ok (.iload_n 3, 1) := by decide +kernel
theorem dX6_copies_27 : decode cX6_copies 27 = .ok (.bipush 40, 2) := by decide +kernel
theorem dX6_copies_29 : decode cX6_copies 29 = .ok (.if_icmp .ge 31, 3) := by decide +kernel
theorem dX6_copies_32 : decode cX6_copies 32 = .ok (.aload_n 0, 1) := by decide +kernel
theorem dX6_copies_33 : decode cX6_copies 33 = .ok (.getfield 28, 3) := by decide +kernel
theorem dX6_copies_36 : decode cX6_copies 36 = .ok (.bipush 40, 2) := by decide +kernel
theorem dX6_copies_38 : decode cX6_copies 38 = .ok (.iload_n 1, 1) := by decide +kernel
theorem dX6_copies_39 : decode cX6_copies 39 = .ok (.imul, 1) := by decide +kernel
theorem dX6_copies_40 : decode cX6_copies 40 = .ok (.iload_n 3, 1) := by decide +kernel
theorem dX6_copies_41 : decode cX6_copies 41 = .ok (.iadd, 1) := by decide +kernel
theorem dX6_copies_42 : decode cX6_copies 42 = .ok (.aload_n 0, 1) := by decide +kernel
theorem dX6_copies_43 : decode cX6_copies 43 = .ok (.getfield 28, 3) := by decide +kernel
theorem dX6_copies_46 : decode cX6_copies 46 = .ok (.bipush 40, 2) := by decide +kernel
theorem dX6_copies_48 : decode cX6_copies 48 = .ok (.iload_n 2, 1) := by decide +kernel
theorem dX6_copies_49 : decode cX6_copies 49 = .ok (.imul, 1) := by decide +kernel
theorem dX6_copies_50 : decode cX6_copies 50 = .ok (.iload_n 3, 1) := by decide +kernel
theorem dX6_copies_51 : decode cX6_copies 51 = .ok (.iadd, 1) := by decide +kernel
theorem dX6_copies_52 : decode cX6_copies 52 = .ok (.baload, 1) := by decide +kernel
theorem dX6_copies_53 : decode cX6_copies 53 = .ok (.bastore, 1) := by decide +kernel
theorem dX6_copies_54 : decode cX6_copies 54 = .ok (.iinc 3 1, 3) := by decide +kernel
theorem dX6_copies_57 : decode cX6_copies 57 = .ok (.goto (-31), 3) := by decide +kernel
theorem dX6_copies_60 : decode cX6_copies 60 = .ok (.return_, 1) := by decide +kernel
theorem dX6_repeat_0 : decode cX6_repeat 0 = .ok (.iload_n 1, 1) := by decide +kernel
theorem dX6_repeat_1 : decode cX6_repeat 1 = .ok (.invokestatic 66, 3) := by decide +kernel
theorem dX6_repeat_4 : decode cX6_repeat 4 = .ok (.ifCond .eq 31, 3) := by decide +kernel
theorem dX6_repeat_7 : decode cX6_repeat 7 = .ok (.iload_n 2, 1) := by decide +kernel
theorem dX6_repeat_8 : decode cX6_repeat 8 = .ok (.i2l, 1) := by decide +kernel
theorem dX6_repeat_9 : decode cX6_repeat 9 = .ok (.lconst 0, 1) := by decide +kernel
theorem dX6_repeat_10 : decode cX6_repeat 10 = .ok (.aload_n 0, 1) := by decide +kernel
theorem dX6_repeat_11 : decode cX6_repeat 11 = .ok (.getfield 17, 3) := by decide +kernel
theorem dX6_repeat_14 : decode cX6_repeat 14 = .ok (.iload_n 1, 1) := by decide +kernel
theorem dX6_repeat_15 : decode cX6_repeat 15 = .ok (.iaload, 1) := by decide +kernel
theorem dX6_repeat_16 : decode cX6_repeat 16 = .ok (.i2l, 1) := by decide +kernel
theorem dX6_repeat_17 : decode cX6_repeat 17 = .ok (.invokestatic 62, 3) := by decide +kernel
theorem dX6_repeat_20 : decode cX6_repeat 20 = .ok (.ifCond .eq 15, 3) := by decide +kernel
theorem dX6_repeat_23 : decode cX6_repeat 23 = .ok (.iload_n 3, 1) := by decide +kernel
theorem dX6_repeat_24 : decode cX6_repeat 24 = .ok (.i2l, 1) := by decide +kernel
theorem dX6_repeat_25 : decode cX6_repeat 25 = .ok (.lconst 1, 1) := by decide +kernel
theorem dX6_repeat_26 : decode cX6_repeat 26 = .ok (.ldc2_w 80, 3) := by decide +kernel
theorem dX6_repeat_29 : decode cX6_repeat 29 = .ok (.invokestatic 62, 3) := by decide +kernel
theorem dX6_repeat_32 : decode cX6_repeat 32 = .ok (.ifCond .ne 5, 3) := by decide +kernel
theorem dX6_repeat_35 : decode cX6_repeat 35 = .ok (.iconst (-1), 1) := by decide +kernel
theorem dX6_repeat_36 : decode cX6_repeat 36 = .ok (.ireturn, 1) := by decide +kernel
theorem dX6_repeat_37 : decode cX6_repeat 37 = .ok (.iload_n 2, 1) := by decide +kernel
theorem dX6_repeat_38 : decode cX6_repeat 38 = .ok (.iload_n 3, 1) := by decide +kernel
theorem dX6_repeat_39 : decode cX6_repeat 39 = .ok (.imul, 1) := by decide +kernel
theorem dX6_repeat_40 : decode cX6_repeat 40 = .ok (.sipush 200, 3) := by decide +kernel
theorem dX6_repeat_43 : decode cX6_repeat 43 = .ok (.if_icmp .le 6, 3) := by decide +kernel
theorem dX6_repeat_46 : decode cX6_repeat 46 = .ok (.bipush (-3), 2) := by decide +kernel
theorem dX6_repeat_48 : decode cX6_repeat 48 = .ok (.ireturn, 1) := by decide +kernel
theorem dX6_repeat_49 : decode cX6_repeat 49 = .ok (.aload_n 0, 1) := by decide +kernel
theorem dX6_repeat_50 : decode cX6_repeat 50 = .ok (.getfield 17, 3) := by decide +kernel
theorem dX6_repeat_53 : decode cX6_repeat 53 = .ok (.iload_n 1, 1) := by decide +kernel
theorem dX6_repeat_54 : decode cX6_repeat 54 = .ok (.iload_n 2, 1) := by decide +kernel
theorem dX6_repeat_55 : decode cX6_repeat 55 = .ok (.iload_n 3, 1) := by decide +kernel
theorem dX6_repeat_56 : decode cX6_repeat 56 = .ok (.imul, 1) := by decide +kernel
theorem dX6_repeat_57 : decode cX6_repeat 57 = .ok (.iastore, 1) := by decide +kernel
theorem dX6_repeat_58 : decode cX6_repeat 58 = .ok (.iload_n 2, 1) := by decide +kernel
theorem dX6_repeat_59 : decode cX6_repeat 59 = .ok (.iload_n 3, 1) := by decide +kernel
theorem dX6_repeat_60 : decode cX6_repeat 60 = .ok (.imul, 1) := by decide +kernel
theorem dX6_repeat_61 : decode cX6_repeat 61 = .ok (.iconst 1, 1) := by decide +kernel
theorem dX6_repeat_62 : decode cX6_repeat 62 = .ok (.isub, 1) := by decide +kernel
theorem dX6_repeat_63 : decode cX6_repeat 63 = .ok (.istore 4, 2) := by decide +kernel
theorem dX6_repeat_65 : decode cX6_repeat 65 = .ok (.iload 4, 2) := by decide +kernel
theorem dX6_repeat_67 : decode cX6_repeat 67 = .ok (.ifCond .lt 31, 3) := by decide +kernel
theorem dX6_repeat_70 : decode cX6_repeat 70 = .ok (.aload_n 0, 1) := by decide +kernel
theorem dX6_repeat_71 : decode cX6_repeat 71 = .ok (.sipush 200, 3) := by decide +kernel
theorem dX6_repeat_74 : decode cX6_repeat 74 = .ok (.iload_n 1, 1) := by decide +kernel
theorem dX6_repeat_75 : decode cX6_repeat 75 = .ok (.imul, 1) := by decide +kernel
theorem dX6_repeat_76 : decode cX6_repeat 76 = .ok (.iload 4, 2) := by decide +kernel
theorem dX6_repeat_78 : decode cX6_repeat 78 = .ok (.iadd, 1) := by decide +kernel
theorem dX6_repeat_79 : decode cX6_repeat 79 = .ok (.sipush 200, 3) := by decide +kernel
theorem dX6_repeat_82 : decode cX6_repeat 82 = .ok (.iload_n 1, 1) := by decide +kernel
theorem dX6_repeat_83 : decode cX6_repeat 83 = .ok (.imul, 1) := by decide +kernel
theorem dX6_repeat_84 : decode cX6_repeat 84 = .ok (.iload 4, 2) := by decide +kernel
theorem dX6_repeat_86 : decode cX6_repeat 86 = .ok (.iload_n 3, 1) := by decide +kernel
theorem dX6_repeat_87 : decode cX6_repeat 87 = .ok (.idiv, 1) := by decide +kernel
theorem dX6_repeat_88 : decode cX6_repeat 88 = .ok (.iadd, 1) := by decide +kernel
theorem dX6_repeat_89 : decode cX6_repeat 89 = .ok (.invokevirtual 82, 3) := by decide +kernel
theorem dX6_repeat_92 : decode cX6_repeat 92 = .ok (.iinc 4 (-1), 3) := by decide +kernel
theorem dX6_repeat_95 : decode cX6_repeat 95 = .ok (.goto (-30), 3) := by decide +kernel
theorem dX6_repeat_98 : decode cX6_repeat 98 = .ok (.aload_n 0, 1) := by decide +kernel
theorem dX6_repeat_99 : decode cX6_repeat 99 = .ok (.getfield 17, 3) := by decide +kernel
theorem dX6_repeat_102 : decode cX6_repeat 102 = .ok (.iload_n 1, 1) := by decide +kernel
theorem dX6_repeat_103 : decode cX6_repeat 103 = .ok (.iaload, 1) := by decide +kernel
theorem dX6_repeat_104 : decode cX6_repeat 104 = .ok (.ireturn, 1) := by decide +kernel
theorem dX6_areLike_0 : decode cX6_areLike 0 = .ok (.aload_n 0, 1) := by decide +kernel
theorem dX6_areLike_1 : decode cX6_areLike 1 = .ok (.getfield 20, 3) := by decide +kernel
theorem dX6_areLike_4 : decode cX6_areLike 4 = .ok (.iload_n 1, 1) := by decide +kernel
theorem dX6_areLike_5 : decode cX6_areLike 5 = .ok (.baload, 1) := by decide +kernel
theorem dX6_areLike_6 : decode cX6_areLike 6 = .ok (.aload_n 0, 1) := by decide +kernel
theorem dX6_areLike_7 : decode cX6_areLike 7 = .ok (.getfield 20, 3) := by decide +kernel
theorem dX6_areLike_10 : decode cX6_areLike 10 = .ok (.iload_n 2, 1) := by decide +kernel
theorem dX6_areLike_11 : decode cX6_areLike 11 = .ok (.baload, 1) := by decide +kernel
theorem dX6_areLike_12 : decode cX6_areLike 12 = .ok (.if_icmp .ne 23, 3) := by decide +kernel
theorem dX6_areLike_15 : decode cX6_areLike 15 = .ok (.aload_n 0, 1) := by decide +kernel
theorem dX6_areLike_16 : decode cX6_areLike 16 = .ok (.getfield 23, 3) := by decide +kernel
theorem dX6_areLike_19 : decode cX6_areLike 19 = .ok (.iload_n 1, 1) := by decide +kernel
theorem dX6_areLike_20 : decode cX6_areLike 20 = .ok (.laload, 1) := by decide +kernel
theorem dX6_areLike_21 : decode cX6_areLike 21 = .ok (.aload_n 0, 1) := by decide +kernel
theorem dX6_areLike_22 : decode cX6_areLike 22 = .ok (.getfield 23, 3) := by decide +kernel
theorem dX6_areLike_25 : decode cX6_areLike 25 = .ok (.iload_n 2, 1) := by decide +kernel
theorem dX6_areLike_26 : decode cX6_areLike 26 = .ok (.laload, 1) := by decide +kernel
theorem dX6_areLike_27 : decode cX6_areLike 27 = .ok (.lcmp, 1) := by decide +kernel
theorem dX6_areLike_28 : decode cX6_areLike 28 = .ok (.ifCond .ne 7, 3) := by decide +kernel
theorem dX6_areLike_31 : decode cX6_areLike 31 = .ok (.iconst 1, 1) := by decide +kernel
theorem dX6_areLike_32 : decode cX6_areLike 32 = .ok (.goto 4, 3) := by decide +kernel
theorem dX6_areLike_35 : decode cX6_areLike 35 = .ok (.iconst 0, 1) := by decide +kernel
theorem dX6_areLike_36 : decode cX6_areLike 36 = .ok (.istore_n 3, 1) := by decide +kernel
theorem dX6_areLike_37 : decode cX6_areLike 37 = .ok (.iconst 0, 1) := by decide +kernel
theorem dX6_areLike_38 : decode cX6_areLike 38 = .ok (.istore 4, 2) := by decide +kernel
theorem dX6_areLike_40 : decode cX6_areLike 40 = .ok (.iload 4, 2) := by decide +kernel
theorem dX6_areLike_42 : decode cX6_areLike 42 = .ok (.bipush 40, 2) := by decide +kernel
theorem dX6_areLike_44 : decode cX6_areLike 44 = .ok (.if_icmp .ge 46, 3) := by decide +kernel
theorem dX6_areLike_47 : decode cX6_areLike 47 = .ok (.iload_n 3, 1) := by decide +kernel
theorem dX6_areLike_48 : decode cX6_areLike 48 = .ok (.ifCond .eq 42, 3) := by decide +kernel
theorem dX6_areLike_51 : decode cX6_areLike 51 = .ok (.aload_n 0, 1) := by decide +kernel
theorem dX6_areLike_52 : decode cX6_areLike 52 = .ok (.getfield 28, 3) := by decide +kernel
theorem dX6_areLike_55 : decode cX6_areLike 55 = .ok (.bipush 40, 2) := by decide +kernel
theorem dX6_areLike_57 : decode cX6_areLike 57 = .ok (.iload_n 1, 1) := by decide +kernel
theorem dX6_areLike_58 : decode cX6_areLike 58 = .ok (.imul, 1) := by decide +kernel
theorem dX6_areLike_59 : decode cX6_areLike 59 = .ok (.iload 4, 2) := by decide +kernel
theorem dX6_areLike_61 : decode cX6_areLike 61 = .ok (.iadd, 1) := by decide +kernel
theorem dX6_areLike_62 : decode cX6_areLike 62 = .ok (.baload, 1) := by decide +kernel
theorem dX6_areLike_63 : decode cX6_areLike 63 = .ok (.aload_n 0, 1) := by decide +kernel
theorem dX6_areLike_64 : decode cX6_areLike 64 = .ok (.getfield 28, 3) := by decide +kernel
theorem dX6_areLike_67 : decode cX6_areLike 67 = .ok (.bipush 40, 2) := by decide +kernel
theorem dX6_areLike_69 : decode cX6_areLike 69 = .ok (.iload_n 2, 1) := by decide +kernel
theorem dX6_areLike_70 : decode cX6_areLike 70 = .ok (.imul, 1) := by decide +kernel
theorem dX6_areLike_71 : decode cX6_areLike 71 = .ok (.iload 4, 2) := by decide +kernel
theorem dX6_areLike_73 : decode cX6_areLike 73 = .ok (.iadd, 1) := by decide +kernel
theorem dX6_areLike_74 : decode cX6_areLike 74 = .ok (.baload, 1) := by decide +kernel
theorem dX6_areLike_75 : decode cX6_areLike 75 = .ok (.if_icmp .ne 7, 3) := by decide +kernel
theorem dX6_areLike_78 : decode cX6_areLike 78 = .ok (.iconst 1, 1) := by decide +kernel
theorem dX6_areLike_79 : decode cX6_areLike 79 = .ok (.goto 4, 3) := by decide +kernel
theorem dX6_areLike_82 : decode cX6_areLike 82 = .ok (.iconst 0, 1) := by decide +kernel
theorem dX6_areLike_83 : decode cX6_areLike 83 = .ok (.istore_n 3, 1) := by decide +kernel
theorem dX6_areLike_84 : decode cX6_areLike 84 = .ok (.iinc 4 1, 3) := by decide +kernel
theorem dX6_areLike_87 : decode cX6_areLike 87 = .ok (.goto (-47), 3) := by decide +kernel
theorem dX6_areLike_90 : decode cX6_areLike 90 = .ok (.iload_n 3, 1) := by decide +kernel
theorem dX6_areLike_91 : decode cX6_areLike 91 = .ok (.ireturn, 1) := by decide +kernel
theorem dX6_told_0 : decode cX6_told 0 = .ok (.iload_n 1, 1) := by decide +kernel
theorem dX6_told_1 : decode cX6_told 1 = .ok (.invokestatic 66, 3) := by decide +kernel
theorem dX6_told_4 : decode cX6_told 4 = .ok (.ifCond .eq 15, 3) := by decide +kernel
theorem dX6_told_7 : decode cX6_told 7 = .ok (.iload_n 2, 1) := by decide +kernel
theorem dX6_told_8 : decode cX6_told 8 = .ok (.i2l, 1) := by decide +kernel
theorem dX6_told_9 : decode cX6_told 9 = .ok (.lconst 0, 1) := by decide +kernel
theorem dX6_told_10 : decode cX6_told 10 = .ok (.ldc2_w 86, 3) := by decide +kernel
theorem dX6_told_13 : decode cX6_told 13 = .ok (.invokestatic 62, 3) := by decide +kernel
theorem dX6_told_16 : decode cX6_told 16 = .ok (.ifCond .ne 5, 3) := by decide +kernel
theorem dX6_told_19 : decode cX6_told 19 = .ok (.iconst (-1), 1) := by decide +kernel
theorem dX6_told_20 : decode cX6_told 20 = .ok (.ireturn, 1) := by decide +kernel
theorem dX6_told_21 : decode cX6_told 21 = .ok (.iload_n 2, 1) := by decide +kernel
theorem dX6_told_22 : decode cX6_told 22 = .ok (.iconst 3, 1) := by decide +kernel
theorem dX6_told_23 : decode cX6_told 23 = .ok (.if_icmp .ge 45, 3) := by decide +kernel
theorem dX6_told_26 : decode cX6_told 26 = .ok (.iload_n 2, 1) := by decide +kernel
theorem dX6_told_27 : decode cX6_told 27 = .ok (.ifCond .ne 12, 3) := by decide +kernel
theorem dX6_told_30 : decode cX6_told 30 = .ok (.aload_n 0, 1) := by decide +kernel
theorem dX6_told_31 : decode cX6_told 31 = .ok (.getfield 7, 3) := by decide +kernel
theorem dX6_told_34 : decode cX6_told 34 = .ok (.iload_n 1, 1) := by decide +kernel
theorem dX6_told_35 : decode cX6_told 35 = .ok (.iaload, 1) := by decide +kernel
theorem dX6_told_36 : decode cX6_told 36 = .ok (.goto 31, 3) := by decide +kernel
theorem dX6_told_39 : decode cX6_told 39 = .ok (.iload_n 2, 1) := by decide +kernel
theorem dX6_told_40 : decode cX6_told 40 = .ok (.iconst 1, 1) := by decide +kernel
theorem dX6_told_41 : decode cX6_told 41 = .ok (.if_icmp .ne 20, 3) := by decide +kernel
theorem dX6_told_44 : decode cX6_told 44 = .ok (.aload_n 0, 1) := by decide +kernel
theorem dX6_told_45 : decode cX6_told 45 = .ok (.getfield 13, 3) := by decide +kernel
theorem dX6_told_48 : decode cX6_told 48 = .ok (.iload_n 1, 1) := by decide +kernel
theorem dX6_told_49 : decode cX6_told 49 = .ok (.baload, 1) := by decide +kernel
theorem dX6_told_50 : decode cX6_told 50 = .ok (.ifCond .eq 7, 3) := by decide +kernel
theorem dX6_told_53 : decode cX6_told 53 = .ok (.iconst 1, 1) := by decide +kernel
theorem dX6_told_54 : decode cX6_told 54 = .ok (.goto 13, 3) := by decide +kernel
theorem dX6_told_57 : decode cX6_told 57 = .ok (.iconst 0, 1) := by decide +kernel
theorem dX6_told_58 : decode cX6_told 58 = .ok (.goto 9, 3) := by decide +kernel
theorem dX6_told_61 : decode cX6_told 61 = .ok (.aload_n 0, 1) := by decide +kernel
theorem dX6_told_62 : decode cX6_told 62 = .ok (.getfield 17, 3) := by decide +kernel
theorem dX6_told_65 : decode cX6_told 65 = .ok (.iload_n 1, 1) := by decide +kernel
theorem dX6_told_66 : decode cX6_told 66 = .ok (.iaload, 1) := by decide +kernel
theorem dX6_told_67 : decode cX6_told 67 = .ok (.ireturn, 1) := by decide +kernel
theorem dX6_told_68 : decode cX6_told 68 = .ok (.iconst 0, 1) := by decide +kernel
theorem dX6_told_69 : decode cX6_told 69 = .ok (.istore_n 3, 1) := by decide +kernel
theorem dX6_told_70 : decode cX6_told 70 = .ok (.iconst 0, 1) := by decide +kernel
theorem dX6_told_71 : decode cX6_told 71 = .ok (.istore 4, 2) := by decide +kernel
theorem dX6_told_73 : decode cX6_told 73 = .ok (.iconst 0, 1) := by decide +kernel
theorem dX6_told_74 : decode cX6_told 74 = .ok (.istore 5, 2) := by decide +kernel
theorem dX6_told_76 : decode cX6_told 76 = .ok (.iload 5, 2) := by decide +kernel
theorem dX6_told_78 : decode cX6_told 78 = .ok (.aload_n 0, 1) := by decide +kernel
theorem dX6_told_79 : decode cX6_told 79 = .ok (.getfield 17, 3) := by decide +kernel
theorem dX6_told_82 : decode cX6_told 82 = .ok (.iload_n 1, 1) := by decide +kernel
theorem dX6_told_83 : decode cX6_told 83 = .ok (.iaload, 1) := by decide +kernel
theorem dX6_told_84 : decode cX6_told 84 = .ok (.if_icmp .ge 106, 3) := by decide +kernel
theorem dX6_told_87 : decode cX6_told 87 = .ok (.sipush 200, 3) := by decide +kernel
theorem dX6_told_90 : decode cX6_told 90 = .ok (.iload_n 1, 1) := by decide +kernel
theorem dX6_told_91 : decode cX6_told 91 = .ok (.imul, 1) := by decide +kernel
theorem dX6_told_92 : decode cX6_told 92 = .ok (.iload 5, 2) := by decide +kernel
theorem dX6_told_94 : decode cX6_told 94 = .ok (.iadd, 1) := by decide +kernel
theorem dX6_told_95 : decode cX6_told 95 = .ok (.istore 6, 2) := by decide +kernel
theorem dX6_told_97 : decode cX6_told 97 = .ok (.iload_n 3, 1) := by decide +kernel
theorem dX6_told_98 : decode cX6_told 98 = .ok (.aload_n 0, 1) := by decide +kernel
theorem dX6_told_99 : decode cX6_told 99 = .ok (.getfield 20, 3) := by decide +kernel
theorem dX6_told_102 : decode cX6_told 102 = .ok (.iload 6, 2) := by decide +kernel
theorem dX6_told_104 : decode cX6_told 104 = .ok (.baload, 1) := by decide +kernel
theorem dX6_told_105 : decode cX6_told 105 = .ok (.ifCond .eq 7, 3) := by decide +kernel
theorem dX6_told_108 : decode cX6_told 108 = .ok (.iconst 0, 1) := by decide +kernel
theorem dX6_told_109 : decode cX6_told 109 = .ok (.goto 4, 3) := by decide +kernel
theorem dX6_told_112 : decode cX6_told 112 = .ok (.iconst 1, 1) := by decide +kernel
theorem dX6_told_113 : decode cX6_told 113 = .ok (.iadd, 1) := by decide +kernel
theorem dX6_told_114 : decode cX6_told 114 = .ok (.istore_n 3, 1) := by decide +kernel
theorem dX6_told_115 : decode cX6_told 115 = .ok (.aload_n 0, 1) := by decide +kernel
theorem dX6_told_116 : decode cX6_told 116 = .ok (.getfield 20, 3) := by decide +kernel
theorem dX6_told_119 : decode cX6_told 119 = .ok (.iload 6, 2) := by decide +kernel
theorem dX6_told_121 : decode cX6_told 121 = .ok (.baload, 1) := by decide +kernel
theorem dX6_told_122 : decode cX6_told 122 = .ok (.istore 7, 2) := by decide +kernel
theorem dX6_told_124 : decode cX6_told 124 = .ok (.iconst 0, 1) := by decide +kernel
theorem dX6_told_125 : decode cX6_told 125 = .ok (.istore 8, 2) := by decide +kernel
theorem dX6_told_127 : decode cX6_told 127 = .ok (.iload 8, 2) := by decide +kernel
theorem dX6_told_129 : decode cX6_told 129 = .ok (.iload 5, 2) := by decide +kernel
theorem dX6_told_131 : decode cX6_told 131 = .ok (.if_icmp .ge 38, 3) := by decide +kernel
theorem dX6_told_134 : decode cX6_told 134 = .ok (.iload 7, 2) := by decide +kernel
theorem dX6_told_136 : decode cX6_told 136 = .ok (.ifCond .eq 33, 3) := by decide +kernel
theorem dX6_told_139 : decode cX6_told 139 = .ok (.aload_n 0, 1) := by decide +kernel
theorem dX6_told_140 : decode cX6_told 140 = .ok (.sipush 200, 3) := by decide +kernel
theorem dX6_told_143 : decode cX6_told 143 = .ok (.iload_n 1, 1) := by decide +kernel
theorem dX6_told_144 : decode cX6_told 144 = .ok (.imul, 1) := by decide +kernel
theorem dX6_told_145 : decode cX6_told 145 = .ok (.iload 8, 2) := by decide +kernel
theorem dX6_told_147 : decode cX6_told 147 = .ok (.iadd, 1) := by decide +kernel
theorem dX6_told_148 : decode cX6_told 148 = .ok (.iload 6, 2) := by decide +kernel
theorem dX6_told_150 : decode cX6_told 150 = .ok (.invokevirtual 88, 3) := by decide +kernel
theorem dX6_told_153 : decode cX6_told 153 = .ok (.ifCond .ne 7, 3) := by decide +kernel
theorem dX6_told_156 : decode cX6_told 156 = .ok (.iconst 1, 1) := by decide +kernel
theorem dX6_told_157 : decode cX6_told 157 = .ok (.goto 4, 3) := by decide +kernel
theorem dX6_told_160 : decode cX6_told 160 = .ok (.iconst 0, 1) := by decide +kernel
theorem dX6_told_161 : decode cX6_told 161 = .ok (.istore 7, 2) := by decide +kernel
theorem dX6_told_163 : decode cX6_told 163 = .ok (.iinc 8 1, 3) := by decide +kernel
theorem dX6_told_166 : decode cX6_told 166 = .ok (.goto (-39), 3) := by decide +kernel
theorem dX6_told_169 : decode cX6_told 169 = .ok (.iload 4, 2) := by decide +kernel
theorem dX6_told_171 : decode cX6_told 171 = .ok (.iload 7, 2) := by decide +kernel
theorem dX6_told_173 : decode cX6_told 173 = .ok (.ifCond .eq 7, 3) := by decide +kernel
theorem dX6_told_176 : decode cX6_told 176 = .ok (.iconst 1, 1) := by decide +kernel
theorem dX6_told_177 : decode cX6_told 177 = .ok (.goto 4, 3) := by decide +kernel
theorem dX6_told_180 : decode cX6_told 180 = .ok (.iconst 0, 1) := by decide +kernel
theorem dX6_told_181 : decode cX6_told 181 = .ok (.iadd, 1) := by decide +kernel
theorem dX6_told_182 : decode cX6_told 182 = .ok (.istore 4, 2) := by decide +kernel
theorem dX6_told_184 : decode cX6_told 184 = .ok (.iinc 5 1, 3) := by decide +kernel
theorem dX6_told_187 : decode cX6_told 187 = .ok (.goto (-111), 3) := by decide +kernel
theorem dX6_told_190 : decode cX6_told 190 = .ok (.iload_n 2, 1) := by decide +kernel
theorem dX6_told_191 : decode cX6_told 191 = .ok (.iconst 3, 1) := by decide +kernel
theorem dX6_told_192 : decode cX6_told 192 = .ok (.if_icmp .ne 7, 3) := by decide +kernel
theorem dX6_told_195 : decode cX6_told 195 = .ok (.iload_n 3, 1) := by decide +kernel
theorem dX6_told_196 : decode cX6_told 196 = .ok (.goto 5, 3) := by decide +kernel
theorem dX6_told_199 : decode cX6_told 199 = .ok (.iload 4, 2) := by decide +kernel
theorem dX6_told_201 : decode cX6_told 201 = .ok (.ireturn, 1) := by decide +kernel
theorem dX6_isValue_0 : decode cX6_isValue 0 = .ok (.iload_n 1, 1) := by decide +kernel
theorem dX6_isValue_1 : decode cX6_isValue 1 = .ok (.invokestatic 66, 3) := by decide +kernel
theorem dX6_isValue_4 : decode cX6_isValue 4 = .ok (.ifCond .eq 25, 3) := by decide +kernel
theorem dX6_isValue_7 : decode cX6_isValue 7 = .ok (.iload_n 2, 1) := by decide +kernel
theorem dX6_isValue_8 : decode cX6_isValue 8 = .ok (.i2l, 1) := by decide +kernel
theorem dX6_isValue_9 : decode cX6_isValue 9 = .ok (.lconst 0, 1) := by decide +kernel
theorem dX6_isValue_10 : decode cX6_isValue 10 = .ok (.aload_n 0, 1) := by decide +kernel
theorem dX6_isValue_11 : decode cX6_isValue 11 = .ok (.getfield 17, 3) := by decide +kernel
theorem dX6_isValue_14 : decode cX6_isValue 14 = .ok (.iload_n 1, 1) := by decide +kernel
theorem dX6_isValue_15 : decode cX6_isValue 15 = .ok (.iaload, 1) := by decide +kernel
theorem dX6_isValue_16 : decode cX6_isValue 16 = .ok (.iconst 1, 1) := by decide +kernel
theorem dX6_isValue_17 : decode cX6_isValue 17 = .ok (.isub, 1) := by decide +kernel
theorem dX6_isValue_18 : decode cX6_isValue 18 = .ok (.i2l, 1) := by decide +kernel
theorem dX6_isValue_19 : decode cX6_isValue 19 = .ok (.invokestatic 62, 3) := by decide +kernel
theorem dX6_isValue_22 : decode cX6_isValue 22 = .ok (.ifCond .eq 7, 3) := by decide +kernel
theorem dX6_isValue_25 : decode cX6_isValue 25 = .ok (.iconst 1, 1) := by decide +kernel
theorem dX6_isValue_26 : decode cX6_isValue 26 = .ok (.goto 4, 3) := by decide +kernel
theorem dX6_isValue_29 : decode cX6_isValue 29 = .ok (.iconst 0, 1) := by decide +kernel
theorem dX6_isValue_30 : decode cX6_isValue 30 = .ok (.ireturn, 1) := by decide +kernel
theorem dX6_has_0 : decode cX6_has 0 = .ok (.aload_n 0, 1) := by decide +kernel
theorem dX6_has_1 : decode cX6_has 1 = .ok (.iload_n 1, 1) := by decide +kernel
theorem dX6_has_2 : decode cX6_has 2 = .ok (.iload_n 2, 1) := by decide +kernel
theorem dX6_has_3 : decode cX6_has 3 = .ok (.invokevirtual 92, 3) := by decide +kernel
theorem dX6_has_6 : decode cX6_has 6 = .ok (.ifCond .ne 7, 3) := by decide +kernel
theorem dX6_has_9 : decode cX6_has 9 = .ok (.iconst (-1), 1) := by decide +kernel
theorem dX6_has_10 : decode cX6_has 10 = .ok (.goto 23, 3) := by decide +kernel
theorem dX6_has_13 : decode cX6_has 13 = .ok (.aload_n 0, 1) := by decide +kernel
theorem dX6_has_14 : decode cX6_has 14 = .ok (.getfield 20, 3) := by decide +kernel
theorem dX6_has_17 : decode cX6_has 17 = .ok (.sipush 200, 3) := by decide +kernel
theorem dX6_has_20 : decode cX6_has 20 = .ok (.iload_n 1, 1) := by decide +kernel
theorem dX6_has_21 : decode cX6_has 21 = .ok (.imul, 1) := by decide +kernel
theorem dX6_has_22 : decode cX6_has 22 = .ok (.iload_n 2, 1) := by decide +kernel
theorem dX6_has_23 : decode cX6_has 23 = .ok (.iadd, 1) := by decide +kernel
theorem dX6_has_24 : decode cX6_has 24 = .ok (.baload, 1) := by decide +kernel
theorem dX6_has_25 : decode cX6_has 25 = .ok (.ifCond .eq 7, 3) := by decide +kernel
theorem dX6_has_28 : decode cX6_has 28 = .ok (.iconst 1, 1) := by decide +kernel
theorem dX6_has_29 : decode cX6_has 29 = .ok (.goto 4, 3) := by decide +kernel
theorem dX6_has_32 : decode cX6_has 32 = .ok (.iconst 0, 1) := by decide +kernel
theorem dX6_has_33 : decode cX6_has 33 = .ok (.ireturn, 1) := by decide +kernel
theorem dX6_value_0 : decode cX6_value 0 = .ok (.aload_n 0, 1) := by decide +kernel
theorem dX6_value_1 : decode cX6_value 1 = .ok (.iload_n 1, 1) := by decide +kernel
theorem dX6_value_2 : decode cX6_value 2 = .ok (.iload_n 2, 1) := by decide +kernel
theorem dX6_value_3 : decode cX6_value 3 = .ok (.invokevirtual 92, 3) := by decide +kernel
theorem dX6_value_6 : decode cX6_value 6 = .ok (.ifCond .eq 33, 3) := by decide +kernel
theorem dX6_value_9 : decode cX6_value 9 = .ok (.aload_n 0, 1) := by decide +kernel
theorem dX6_value_10 : decode cX6_value 10 = .ok (.getfield 20, 3) := by decide +kernel
theorem dX6_value_13 : decode cX6_value 13 = .ok (.sipush 200, 3) := by decide +kernel
theorem dX6_value_16 : decode cX6_value 16 = .ok (.iload_n 1, 1) := by decide +kernel
theorem dX6_value_17 : decode cX6_value 17 = .ok (.imul, 1) := by decide +kernel
theorem dX6_value_18 : decode cX6_value 18 = .ok (.iload_n 2, 1) := by decide +kernel
theorem dX6_value_19 : decode cX6_value 19 = .ok (.iadd, 1) := by decide +kernel
theorem dX6_value_20 : decode cX6_value 20 = .ok (.baload, 1) := by decide +kernel
theorem dX6_value_21 : decode cX6_value 21 = .ok (.ifCond .eq 18, 3) := by decide +kernel
theorem dX6_value_24 : decode cX6_value 24 = .ok (.aload_n 0, 1) := by decide +kernel
theorem dX6_value_25 : decode cX6_value 25 = .ok (.getfield 23, 3) := by decide +kernel
theorem dX6_value_28 : decode cX6_value 28 = .ok (.sipush 200, 3) := by decide +kernel
theorem dX6_value_31 : decode cX6_value 31 = .ok (.iload_n 1, 1) := by decide +kernel
theorem dX6_value_32 : decode cX6_value 32 = .ok (.imul, 1) := by decide +kernel
theorem dX6_value_33 : decode cX6_value 33 = .ok (.iload_n 2, 1) := by decide +kernel
theorem dX6_value_34 : decode cX6_value 34 = .ok (.iadd, 1) := by decide +kernel
theorem dX6_value_35 : decode cX6_value 35 = .ok (.laload, 1) := by decide +kernel
theorem dX6_value_36 : decode cX6_value 36 = .ok (.goto 4, 3) := by decide +kernel
theorem dX6_value_39 : decode cX6_value 39 = .ok (.lconst 0, 1) := by decide +kernel
theorem dX6_value_40 : decode cX6_value 40 = .ok (.lreturn, 1) := by decide +kernel
theorem dX6_letter_0 : decode cX6_letter 0 = .ok (.aload_n 0, 1) := by decide +kernel
theorem dX6_letter_1 : decode cX6_letter 1 = .ok (.iload_n 1, 1) := by decide +kernel
theorem dX6_letter_2 : decode cX6_letter 2 = .ok (.iload_n 2, 1) := by decide +kernel
theorem dX6_letter_3 : decode cX6_letter 3 = .ok (.invokevirtual 92, 3) := by decide +kernel
theorem dX6_letter_6 : decode cX6_letter 6 = .ok (.ifCond .eq 55, 3) := by decide +kernel
theorem dX6_letter_9 : decode cX6_letter 9 = .ok (.aload_n 0, 1) := by decide +kernel
theorem dX6_letter_10 : decode cX6_letter 10 = .ok (.getfield 7, 3) := by decide +kernel
theorem dX6_letter_13 : decode cX6_letter 13 = .ok (.iload_n 1, 1) := by decide +kernel
theorem dX6_letter_14 : decode cX6_letter 14 = .ok (.iaload, 1) := by decide +kernel
theorem dX6_letter_15 : decode cX6_letter 15 = .ok (.iconst 2, 1) := by decide +kernel
theorem dX6_letter_16 : decode cX6_letter 16 = .ok (.if_icmp .ne 45, 3) := by decide +kernel
theorem dX6_letter_19 : decode cX6_letter 19 = .ok (.aload_n 0, 1) := by decide +kernel
theorem dX6_letter_20 : decode cX6_letter 20 = .ok (.getfield 20, 3) := by decide +kernel
theorem dX6_letter_23 : decode cX6_letter 23 = .ok (.sipush 200, 3) := by decide +kernel
theorem dX6_letter_26 : decode cX6_letter 26 = .ok (.iload_n 1, 1) := by decide +kernel
theorem dX6_letter_27 : decode cX6_letter 27 = .ok (.imul, 1) := by decide +kernel
theorem dX6_letter_28 : decode cX6_letter 28 = .ok (.iload_n 2, 1) := by decide +kernel
theorem dX6_letter_29 : decode cX6_letter 29 = .ok (.iadd, 1) := by decide +kernel
theorem dX6_letter_30 : decode cX6_letter 30 = .ok (.baload, 1) := by decide +kernel
theorem dX6_letter_31 : decode cX6_letter 31 = .ok (.ifCond .eq 30, 3) := by decide +kernel
theorem dX6_letter_34 : decode cX6_letter 34 = .ok (.iload_n 3, 1) := by decide +kernel
theorem dX6_letter_35 : decode cX6_letter 35 = .ok (.i2l, 1) := by decide +kernel
theorem dX6_letter_36 : decode cX6_letter 36 = .ok (.lconst 0, 1) := by decide +kernel
theorem dX6_letter_37 : decode cX6_letter 37 = .ok (.aload_n 0, 1) := by decide +kernel
theorem dX6_letter_38 : decode cX6_letter 38 = .ok (.getfield 23, 3) := by decide +kernel
theorem dX6_letter_41 : decode cX6_letter 41 = .ok (.sipush 200, 3) := by decide +kernel
theorem dX6_letter_44 : decode cX6_letter 44 = .ok (.iload_n 1, 1) := by decide +kernel
theorem dX6_letter_45 : decode cX6_letter 45 = .ok (.imul, 1) := by decide +kernel
theorem dX6_letter_46 : decode cX6_letter 46 = .ok (.iload_n 2, 1) := by decide +kernel
theorem dX6_letter_47 : decode cX6_letter 47 = .ok (.iadd, 1) := by decide +kernel
theorem dX6_letter_48 : decode cX6_letter 48 = .ok (.laload, 1) := by decide +kernel
theorem dX6_letter_49 : decode cX6_letter 49 = .ok (.lconst 1, 1) := by decide +kernel
theorem dX6_letter_50 : decode cX6_letter 50 = .ok (.lsub, 1) := by decide +kernel
theorem dX6_letter_51 : decode cX6_letter 51 = .ok (.invokestatic 62, 3) := by decide +kernel
theorem dX6_letter_54 : decode cX6_letter 54 = .ok (.ifCond .eq 7, 3) := by decide +kernel
theorem dX6_letter_57 : decode cX6_letter 57 = .ok (.iconst 1, 1) := by decide +kernel
theorem dX6_letter_58 : decode cX6_letter 58 = .ok (.goto 4, 3) := by decide +kernel
theorem dX6_letter_61 : decode cX6_letter 61 = .ok (.iconst 0, 1) := by decide +kernel
theorem dX6_letter_62 : decode cX6_letter 62 = .ok (.istore 4, 2) := by decide +kernel
theorem dX6_letter_64 : decode cX6_letter 64 = .ok (.iload 4, 2) := by decide +kernel
theorem dX6_letter_66 : decode cX6_letter 66 = .ok (.ifCond .eq 27, 3) := by decide +kernel
theorem dX6_letter_69 : decode cX6_letter 69 = .ok (.aload_n 0, 1) := by decide +kernel
theorem dX6_letter_70 : decode cX6_letter 70 = .ok (.getfield 28, 3) := by decide +kernel
theorem dX6_letter_73 : decode cX6_letter 73 = .ok (.bipush 40, 2) := by decide +kernel
theorem dX6_letter_75 : decode cX6_letter 75 = .ok (.sipush 200, 3) := by decide +kernel
theorem dX6_letter_78 : decode cX6_letter 78 = .ok (.iload_n 1, 1) := by decide +kernel
theorem dX6_letter_79 : decode cX6_letter 79 = .ok (.imul, 1) := by decide +kernel
theorem dX6_letter_80 : decode cX6_letter 80 = .ok (.iload_n 2, 1) := by decide +kernel
theorem dX6_letter_81 : decode cX6_letter 81 = .ok (.iadd, 1) := by decide +kernel
theorem dX6_letter_82 : decode cX6_letter 82 = .ok (.imul, 1) := by decide +kernel
theorem dX6_letter_83 : decode cX6_letter 83 = .ok (.iload_n 3, 1) := by decide +kernel
theorem dX6_letter_84 : decode cX6_letter 84 = .ok (.iadd, 1) := by decide +kernel
theorem dX6_letter_85 : decode cX6_letter 85 = .ok (.baload, 1) := by decide +kernel
theorem dX6_letter_86 : decode cX6_letter 86 = .ok (.sipush 255, 3) := by decide +kernel
theorem dX6_letter_89 : decode cX6_letter 89 = .ok (.iand, 1) := by decide +kernel
theorem dX6_letter_90 : decode cX6_letter 90 = .ok (.goto 4, 3) := by decide +kernel
theorem dX6_letter_93 : decode cX6_letter 93 = .ok (.iconst (-1), 1) := by decide +kernel
theorem dX6_letter_94 : decode cX6_letter 94 = .ok (.ireturn, 1) := by decide +kernel
theorem dX6_alike_0 : decode cX6_alike 0 = .ok (.iload_n 1, 1) := by decide +kernel
theorem dX6_alike_1 : decode cX6_alike 1 = .ok (.invokestatic 66, 3) := by decide +kernel
theorem dX6_alike_4 : decode cX6_alike 4 = .ok (.ifCond .eq 10, 3) := by decide +kernel
theorem dX6_alike_7 : decode cX6_alike 7 = .ok (.iload_n 2, 1) := by decide +kernel
theorem dX6_alike_8 : decode cX6_alike 8 = .ok (.invokestatic 66, 3) := by decide +kernel
theorem dX6_alike_11 : decode cX6_alike 11 = .ok (.ifCond .ne 5, 3) := by decide +kernel
theorem dX6_alike_14 : decode cX6_alike 14 = .ok (.iconst (-1), 1) := by decide +kernel
theorem dX6_alike_15 : decode cX6_alike 15 = .ok (.ireturn, 1) := by decide +kernel
theorem dX6_alike_16 : decode cX6_alike 16 = .ok (.aload_n 0, 1) := by decide +kernel
theorem dX6_alike_17 : decode cX6_alike 17 = .ok (.getfield 7, 3) := by decide +kernel
theorem dX6_alike_20 : decode cX6_alike 20 = .ok (.iload_n 1, 1) := by decide +kernel
theorem dX6_alike_21 : decode cX6_alike 21 = .ok (.iaload, 1) := by decide +kernel
theorem dX6_alike_22 : decode cX6_alike 22 = .ok (.aload_n 0, 1) := by decide +kernel
theorem dX6_alike_23 : decode cX6_alike 23 = .ok (.getfield 7, 3) := by decide +kernel
theorem dX6_alike_26 : decode cX6_alike 26 = .ok (.iload_n 2, 1) := by decide +kernel
theorem dX6_alike_27 : decode cX6_alike 27 = .ok (.iaload, 1) := by decide +kernel
theorem dX6_alike_28 : decode cX6_alike 28 = .ok (.if_icmp .ne 22, 3) := by decide +kernel
theorem dX6_alike_31 : decode cX6_alike 31 = .ok (.aload_n 0, 1) := by decide +kernel
theorem dX6_alike_32 : decode cX6_alike 32 = .ok (.getfield 17, 3) := by decide +kernel
theorem dX6_alike_35 : decode cX6_alike 35 = .ok (.iload_n 1, 1) := by decide +kernel
theorem dX6_alike_36 : decode cX6_alike 36 = .ok (.iaload, 1) := by decide +kernel
theorem dX6_alike_37 : decode cX6_alike 37 = .ok (.aload_n 0, 1) := by decide +kernel
theorem dX6_alike_38 : decode cX6_alike 38 = .ok (.getfield 17, 3) := by decide +kernel
theorem dX6_alike_41 : decode cX6_alike 41 = .ok (.iload_n 2, 1) := by decide +kernel
theorem dX6_alike_42 : decode cX6_alike 42 = .ok (.iaload, 1) := by decide +kernel
theorem dX6_alike_43 : decode cX6_alike 43 = .ok (.if_icmp .ne 7, 3) := by decide +kernel
theorem dX6_alike_46 : decode cX6_alike 46 = .ok (.iconst 1, 1) := by decide +kernel
theorem dX6_alike_47 : decode cX6_alike 47 = .ok (.goto 4, 3) := by decide +kernel
theorem dX6_alike_50 : decode cX6_alike 50 = .ok (.iconst 0, 1) := by decide +kernel
theorem dX6_alike_51 : decode cX6_alike 51 = .ok (.istore_n 3, 1) := by decide +kernel
theorem dX6_alike_52 : decode cX6_alike 52 = .ok (.iconst 0, 1) := by decide +kernel
theorem dX6_alike_53 : decode cX6_alike 53 = .ok (.istore 4, 2) := by decide +kernel
theorem dX6_alike_55 : decode cX6_alike 55 = .ok (.iload 4, 2) := by decide +kernel
theorem dX6_alike_57 : decode cX6_alike 57 = .ok (.aload_n 0, 1) := by decide +kernel
theorem dX6_alike_58 : decode cX6_alike 58 = .ok (.getfield 17, 3) := by decide +kernel
theorem dX6_alike_61 : decode cX6_alike 61 = .ok (.iload_n 1, 1) := by decide +kernel
theorem dX6_alike_62 : decode cX6_alike 62 = .ok (.iaload, 1) := by decide +kernel
theorem dX6_alike_63 : decode cX6_alike 63 = .ok (.if_icmp .ge 34, 3) := by decide +kernel
theorem dX6_alike_66 : decode cX6_alike 66 = .ok (.iload_n 3, 1) := by decide +kernel
theorem dX6_alike_67 : decode cX6_alike 67 = .ok (.ifCond .eq 30, 3) := by decide +kernel
theorem dX6_alike_70 : decode cX6_alike 70 = .ok (.aload_n 0, 1) := by decide +kernel
theorem dX6_alike_71 : decode cX6_alike 71 = .ok (.sipush 200, 3) := by decide +kernel
theorem dX6_alike_74 : decode cX6_alike 74 = .ok (.iload_n 1, 1) := by decide +kernel
theorem dX6_alike_75 : decode cX6_alike 75 = .ok (.imul, 1) := by decide +kernel
theorem dX6_alike_76 : decode cX6_alike 76 = .ok (.iload 4, 2) := by decide +kernel
theorem dX6_alike_78 : decode cX6_alike 78 = .ok (.iadd, 1) := by decide +kernel
theorem dX6_alike_79 : decode cX6_alike 79 = .ok (.sipush 200, 3) := by decide +kernel
theorem dX6_alike_82 : decode cX6_alike 82 = .ok (.iload_n 2, 1) := by decide +kernel
theorem dX6_alike_83 : decode cX6_alike 83 = .ok (.imul, 1) := by decide +kernel
theorem dX6_alike_84 : decode cX6_alike 84 = .ok (.iload 4, 2) := by decide +kernel
theorem dX6_alike_86 : decode cX6_alike 86 = .ok (.iadd, 1) := by decide +kernel
theorem dX6_alike_87 : decode cX6_alike 87 = .ok (.invokevirtual 88, 3) := by decide +kernel
theorem dX6_alike_90 : decode cX6_alike 90 = .ok (.istore_n 3, 1) := by decide +kernel
theorem dX6_alike_91 : decode cX6_alike 91 = .ok (.iinc 4 1, 3) := by decide +kernel
theorem dX6_alike_94 : decode cX6_alike 94 = .ok (.goto (-39), 3) := by decide +kernel
theorem dX6_alike_97 : decode cX6_alike 97 = .ok (.iload_n 3, 1) := by decide +kernel
theorem dX6_alike_98 : decode cX6_alike 98 = .ok (.ifCond .eq 7, 3) := by decide +kernel
theorem dX6_alike_101 : decode cX6_alike 101 = .ok (.iconst 1, 1) := by decide +kernel
theorem dX6_alike_102 : decode cX6_alike 102 = .ok (.goto 4, 3) := by decide +kernel
theorem dX6_alike_105 : decode cX6_alike 105 = .ok (.iconst 0, 1) := by decide +kernel
theorem dX6_alike_106 : decode cX6_alike 106 = .ok (.ireturn, 1) := by decide +kernel
theorem dX6_byteTo_0 : decode cX6_byteTo 0 = .ok (.aload_n 0, 1) := by decide +kernel
theorem dX6_byteTo_1 : decode cX6_byteTo 1 = .ok (.getfield 39, 3) := by decide +kernel
theorem dX6_byteTo_4 : decode cX6_byteTo 4 = .ok (.aload_n 0, 1) := by decide +kernel
theorem dX6_byteTo_5 : decode cX6_byteTo 5 = .ok (.getfield 95, 3) := by decide +kernel
theorem dX6_byteTo_8 : decode cX6_byteTo 8 = .ok (.iload_n 1, 1) := by decide +kernel
theorem dX6_byteTo_9 : decode cX6_byteTo 9 = .ok (.i2b, 1) := by decide +kernel
theorem dX6_byteTo_10 : decode cX6_byteTo 10 = .ok (.bastore, 1) := by decide +kernel
theorem dX6_byteTo_11 : decode cX6_byteTo 11 = .ok (.aload_n 0, 1) := by decide +kernel
theorem dX6_byteTo_12 : decode cX6_byteTo 12 = .ok (.dup, 1) := by decide +kernel
theorem dX6_byteTo_13 : decode cX6_byteTo 13 = .ok (.getfield 95, 3) := by decide +kernel
theorem dX6_byteTo_16 : decode cX6_byteTo 16 = .ok (.iconst 1, 1) := by decide +kernel
theorem dX6_byteTo_17 : decode cX6_byteTo 17 = .ok (.iadd, 1) := by decide +kernel
theorem dX6_byteTo_18 : decode cX6_byteTo 18 = .ok (.putfield 95, 3) := by decide +kernel
theorem dX6_byteTo_21 : decode cX6_byteTo 21 = .ok (.return_, 1) := by decide +kernel
theorem dX6_bytesTo_0 : decode cX6_bytesTo 0 = .ok (.iconst 0, 1) := by decide +kernel
theorem dX6_bytesTo_1 : decode cX6_bytesTo 1 = .ok (.istore 4, 2) := by decide +kernel
theorem dX6_bytesTo_3 : decode cX6_bytesTo 3 = .ok (.iload 4, 2) := by decide +kernel
theorem dX6_bytesTo_5 : decode cX6_bytesTo 5 = .ok (.iload_n 3, 1) := by decide +kernel
theorem dX6_bytesTo_6 : decode cX6_bytesTo 6 = .ok (.if_icmp .ge 21, 3) := by decide +kernel
theorem dX6_bytesTo_9 : decode cX6_bytesTo 9 = .ok (.aload_n 0, 1) := by decide +kernel
theorem dX6_bytesTo_10 : decode cX6_bytesTo 10 = .ok (.lload_n 1, 1) := by decide +kernel
theorem dX6_bytesTo_11 : decode cX6_bytesTo 11 = .ok (.bipush 8, 2) := by decide +kernel
theorem dX6_bytesTo_13 : decode cX6_bytesTo 13 = .ok (.iload 4, 2) := by decide +kernel
theorem dX6_bytesTo_15 : decode cX6_bytesTo 15 = .ok (.imul, 1) := by decide +kernel
theorem dX6_bytesTo_16 : decode cX6_bytesTo 16 = .ok (.lshr, 1) := by decide +kernel
theorem dX6_bytesTo_17 : decode cX6_bytesTo 17 = .ok (.l2i, 1) := by decide +kernel
theorem dX6_bytesTo_18 : decode cX6_bytesTo 18 = .ok (.invokevirtual 98, 3) := by decide +kernel
theorem dX6_bytesTo_21 : decode cX6_bytesTo 21 = .ok (.iinc 4 1, 3) := by decide +kernel
theorem dX6_bytesTo_24 : decode cX6_bytesTo 24 = .ok (.goto (-21), 3) := by decide +kernel
theorem dX6_bytesTo_27 : decode cX6_bytesTo 27 = .ok (.return_, 1) := by decide +kernel
theorem dX6_var_0 : decode cX6_var 0 = .ok (.lload_n 1, 1) := by decide +kernel
theorem dX6_var_1 : decode cX6_var 1 = .ok (.lstore_n 3, 1) := by decide +kernel
theorem dX6_var_2 : decode cX6_var 2 = .ok (.lload_n 3, 1) := by decide +kernel
theorem dX6_var_3 : decode cX6_var 3 = .ok (.ldc2_w 102, 3) := by decide +kernel
theorem dX6_var_6 : decode cX6_var 6 = .ok (.land, 1) := by decide +kernel
theorem dX6_var_7 : decode cX6_var 7 = .ok (.lconst 0, 1) := by decide +kernel
theorem dX6_var_8 : decode cX6_var 8 = .ok (.lcmp, 1) := by decide +kernel
theorem dX6_var_9 : decode cX6_var 9 = .ok (.ifCond .eq 25, 3) := by decide +kernel
theorem dX6_var_12 : decode cX6_var 12 = .ok (.aload_n 0, 1) := by decide +kernel
theorem dX6_var_13 : decode cX6_var 13 = .ok (.lload_n 3, 1) := by decide +kernel
theorem dX6_var_14 : decode cX6_var 14 = .ok (.ldc2_w 104, 3) := by decide +kernel
theorem dX6_var_17 : decode cX6_var 17 = .ok (.land, 1) := by decide +kernel
theorem dX6_var_18 : decode cX6_var 18 = .ok (.l2i, 1) := by decide +kernel
theorem dX6_var_19 : decode cX6_var 19 = .ok (.sipush 128, 3) := by decide +kernel
theorem dX6_var_22 : decode cX6_var 22 = .ok (.ior, 1) := by decide +kernel
theorem dX6_var_23 : decode cX6_var 23 = .ok (.invokevirtual 98, 3) := by decide +kernel
theorem dX6_var_26 : decode cX6_var 26 = .ok (.lload_n 3, 1) := by decide +kernel
theorem dX6_var_27 : decode cX6_var 27 = .ok (.bipush 7, 2) := by decide +kernel
theorem dX6_var_29 : decode cX6_var 29 = .ok (.lushr, 1) := by decide +kernel
theorem dX6_var_30 : decode cX6_var 30 = .ok (.lstore_n 3, 1) := by decide +kernel
theorem dX6_var_31 : decode cX6_var 31 = .ok (.goto (-29), 3) := by decide +kernel
theorem dX6_var_34 : decode cX6_var 34 = .ok (.aload_n 0, 1) := by decide +kernel
theorem dX6_var_35 : decode cX6_var 35 = .ok (.lload_n 3, 1) := by decide +kernel
theorem dX6_var_36 : decode cX6_var 36 = .ok (.l2i, 1) := by decide +kernel
theorem dX6_var_37 : decode cX6_var 37 = .ok (.invokevirtual 98, 3) := by decide +kernel
theorem dX6_var_40 : decode cX6_var 40 = .ok (.return_, 1) := by decide +kernel
theorem dX6_zig_0 : decode cX6_zig 0 = .ok (.aload_n 0, 1) := by decide +kernel
theorem dX6_zig_1 : decode cX6_zig 1 = .ok (.lload_n 1, 1) := by decide +kernel
theorem dX6_zig_2 : decode cX6_zig 2 = .ok (.iconst 1, 1) := by decide +kernel
theorem dX6_zig_3 : decode cX6_zig 3 = .ok (.lshl, 1) := by decide +kernel
theorem dX6_zig_4 : decode cX6_zig 4 = .ok (.lload_n 1, 1) := by decide +kernel
theorem dX6_zig_5 : decode cX6_zig 5 = .ok (.bipush 63, 2) := by decide +kernel
theorem dX6_zig_7 : decode cX6_zig 7 = .ok (.lshr, 1) := by decide +kernel
theorem dX6_zig_8 : decode cX6_zig 8 = .ok (.lxor, 1) := by decide +kernel
theorem dX6_zig_9 : decode cX6_zig 9 = .ok (.invokevirtual 106, 3) := by decide +kernel
theorem dX6_zig_12 : decode cX6_zig 12 = .ok (.return_, 1) := by decide +kernel
theorem dX6_pack_0 : decode cX6_pack 0 = .ok (.iconst 0, 1) := by decide +kernel
theorem dX6_pack_1 : decode cX6_pack 1 = .ok (.istore 5, 2) := by decide +kernel
theorem dX6_pack_3 : decode cX6_pack 3 = .ok (.iconst 0, 1) := by decide +kernel
theorem dX6_pack_4 : decode cX6_pack 4 = .ok (.istore 6, 2) := by decide +kernel
theorem dX6_pack_6 : decode cX6_pack 6 = .ok (.iload_n 1, 1) := by decide +kernel
theorem dX6_pack_7 : decode cX6_pack 7 = .ok (.istore 7, 2) := by decide +kernel
theorem dX6_pack_9 : decode cX6_pack 9 = .ok (.iload 7, 2) := by decide +kernel
theorem dX6_pack_11 : decode cX6_pack 11 = .ok (.iload_n 1, 1) := by decide +kernel
theorem dX6_pack_12 : decode cX6_pack 12 = .ok (.iload_n 2, 1) := by decide +kernel
theorem dX6_pack_13 : decode cX6_pack 13 = .ok (.iadd, 1) := by decide +kernel
theorem dX6_pack_14 : decode cX6_pack 14 = .ok (.if_icmp .ge 82, 3) := by decide +kernel
theorem dX6_pack_17 : decode cX6_pack 17 = .ok (.iconst 0, 1) := by decide +kernel
theorem dX6_pack_18 : decode cX6_pack 18 = .ok (.istore 8, 2) := by decide +kernel
theorem dX6_pack_20 : decode cX6_pack 20 = .ok (.iload 8, 2) := by decide +kernel
theorem dX6_pack_22 : decode cX6_pack 22 = .ok (.iload 4, 2) := by decide +kernel
theorem dX6_pack_24 : decode cX6_pack 24 = .ok (.if_icmp .ge 66, 3) := by decide +kernel
theorem dX6_pack_27 : decode cX6_pack 27 = .ok (.iload 7, 2) := by decide +kernel
theorem dX6_pack_29 : decode cX6_pack 29 = .ok (.iload_n 3, 1) := by decide +kernel
theorem dX6_pack_30 : decode cX6_pack 30 = .ok (.if_icmp .ge 19, 3) := by decide +kernel
theorem dX6_pack_33 : decode cX6_pack 33 = .ok (.aload_n 0, 1) := by decide +kernel
theorem dX6_pack_34 : decode cX6_pack 34 = .ok (.getfield 42, 3) := by decide +kernel
theorem dX6_pack_37 : decode cX6_pack 37 = .ok (.iload 7, 2) := by decide +kernel
theorem dX6_pack_39 : decode cX6_pack 39 = .ok (.laload, 1) := by decide +kernel
theorem dX6_pack_40 : decode cX6_pack 40 = .ok (.iload 8, 2) := by decide +kernel
theorem dX6_pack_42 : decode cX6_pack 42 = .ok (.lushr, 1) := by decide +kernel
theorem dX6_pack_43 : decode cX6_pack 43 = .ok (.lconst 1, 1) := by decide +kernel
theorem dX6_pack_44 : decode cX6_pack 44 = .ok (.land, 1) := by decide +kernel
theorem dX6_pack_45 : decode cX6_pack 45 = .ok (.l2i, 1) := by decide +kernel
theorem dX6_pack_46 : decode cX6_pack 46 = .ok (.goto 4, 3) := by decide +kernel
theorem dX6_pack_49 : decode cX6_pack 49 = .ok (.iconst 0, 1) := by decide +kernel
theorem dX6_pack_50 : decode cX6_pack 50 = .ok (.istore 9, 2) := by decide +kernel
theorem dX6_pack_52 : decode cX6_pack 52 = .ok (.iload 6, 2) := by decide +kernel
theorem dX6_pack_54 : decode cX6_pack 54 = .ok (.iload 9, 2) := by decide +kernel
theorem dX6_pack_56 : decode cX6_pack 56 = .ok (.iload 5, 2) := by decide +kernel
theorem dX6_pack_58 : decode cX6_pack 58 = .ok (.ishl, 1) := by decide +kernel
theorem dX6_pack_59 : decode cX6_pack 59 = .ok (.ior, 1) := by decide +kernel
theorem dX6_pack_60 : decode cX6_pack 60 = .ok (.istore 6, 2) := by decide +kernel
theorem dX6_pack_62 : decode cX6_pack 62 = .ok (.iinc 5 1, 3) := by decide +kernel
theorem dX6_pack_65 : decode cX6_pack 65 = .ok (.iload 5, 2) := by decide +kernel
theorem dX6_pack_67 : decode cX6_pack 67 = .ok (.bipush 8, 2) := by decide +kernel
theorem dX6_pack_69 : decode cX6_pack 69 = .ok (.if_icmp .ne 15, 3) := by decide +kernel
theorem dX6_pack_72 : decode cX6_pack 72 = .ok (.aload_n 0, 1) := by decide +kernel
theorem dX6_pack_73 : decode cX6_pack 73 = .ok (.iload 6, 2) := by decide +kernel
theorem dX6_pack_75 : decode cX6_pack 75 = .ok (.invokevirtual 98, 3) := by decide +kernel
theorem dX6_pack_78 : decode cX6_pack 78 = .ok (.iconst 0, 1) := by decide +kernel
theorem dX6_pack_79 : decode cX6_pack 79 = .ok (.istore 6, 2) := by decide +kernel
theorem dX6_pack_81 : decode cX6_pack 81 = .ok (.iconst 0, 1) := by decide +kernel
theorem dX6_pack_82 : decode cX6_pack 82 = .ok (.istore 5, 2) := by decide +kernel
theorem dX6_pack_84 : decode cX6_pack 84 = .ok (.iinc 8 1, 3) := by decide +kernel
theorem dX6_pack_87 : decode cX6_pack 87 = .ok (.goto (-67), 3) := by decide +kernel
theorem dX6_pack_90 : decode cX6_pack 90 = .ok (.iinc 7 1, 3) := by decide +kernel
theorem dX6_pack_93 : decode cX6_pack 93 = .ok (.goto (-84), 3) := by decide +kernel
theorem dX6_pack_96 : decode cX6_pack 96 = .ok (.iload 5, 2) := by decide +kernel
theorem dX6_pack_98 : decode cX6_pack 98 = .ok (.ifCond .le 9, 3) := by decide +kernel
theorem dX6_pack_101 : decode cX6_pack 101 = .ok (.aload_n 0, 1) := by decide +kernel
theorem dX6_pack_102 : decode cX6_pack 102 = .ok (.iload 6, 2) := by decide +kernel
theorem dX6_pack_104 : decode cX6_pack 104 = .ok (.invokevirtual 98, 3) := by decide +kernel
theorem dX6_pack_107 : decode cX6_pack 107 = .ok (.return_, 1) := by decide +kernel
theorem dX6_alikeFrom_0 : decode cX6_alikeFrom 0 = .ok (.iload_n 1, 1) := by decide +kernel
theorem dX6_alikeFrom_1 : decode cX6_alikeFrom 1 = .ok (.istore_n 3, 1) := by decide +kernel
theorem dX6_alikeFrom_2 : decode cX6_alikeFrom 2 = .ok (.iload_n 3, 1) := by decide +kernel
theorem dX6_alikeFrom_3 : decode cX6_alikeFrom 3 = .ok (.iload_n 2, 1) := by decide +kernel
theorem dX6_alikeFrom_4 : decode cX6_alikeFrom 4 = .ok (.if_icmp .ge 25, 3) := by decide +kernel
theorem dX6_alikeFrom_7 : decode cX6_alikeFrom 7 = .ok (.aload_n 0, 1) := by decide +kernel
theorem dX6_alikeFrom_8 : decode cX6_alikeFrom 8 = .ok (.getfield 42, 3) := by decide +kernel
theorem dX6_alikeFrom_11 : decode cX6_alikeFrom 11 = .ok (.iload_n 3, 1) := by decide +kernel
theorem dX6_alikeFrom_12 : decode cX6_alikeFrom 12 = .ok (.laload, 1) := by decide +kernel
theorem dX6_alikeFrom_13 : decode cX6_alikeFrom 13 = .ok (.aload_n 0, 1) := by decide +kernel
theorem dX6_alikeFrom_14 : decode cX6_alikeFrom 14 = .ok (.getfield 42, 3) := by decide +kernel
theorem dX6_alikeFrom_17 : decode cX6_alikeFrom 17 = .ok (.iload_n 1, 1) := by decide +kernel
theorem dX6_alikeFrom_18 : decode cX6_alikeFrom 18 = .ok (.laload, 1) := by decide +kernel
theorem dX6_alikeFrom_19 : decode cX6_alikeFrom 19 = .ok (.lcmp, 1) := by decide +kernel
theorem dX6_alikeFrom_20 : decode cX6_alikeFrom 20 = .ok (.ifCond .ne 9, 3) := by decide +kernel
theorem dX6_alikeFrom_23 : decode cX6_alikeFrom 23 = .ok (.iinc 3 1, 3) := by decide +kernel
theorem dX6_alikeFrom_26 : decode cX6_alikeFrom 26 = .ok (.goto (-24), 3) := by decide +kernel
theorem dX6_alikeFrom_29 : decode cX6_alikeFrom 29 = .ok (.iload_n 3, 1) := by decide +kernel
theorem dX6_alikeFrom_30 : decode cX6_alikeFrom 30 = .ok (.iload_n 1, 1) := by decide +kernel
theorem dX6_alikeFrom_31 : decode cX6_alikeFrom 31 = .ok (.isub, 1) := by decide +kernel
theorem dX6_alikeFrom_32 : decode cX6_alikeFrom 32 = .ok (.ireturn, 1) := by decide +kernel
theorem dX6_runs_0 : decode cX6_runs 0 = .ok (.iconst 0, 1) := by decide +kernel
theorem dX6_runs_1 : decode cX6_runs 1 = .ok (.istore_n 3, 1) := by decide +kernel
theorem dX6_runs_2 : decode cX6_runs 2 = .ok (.iload_n 3, 1) := by decide +kernel
theorem dX6_runs_3 : decode cX6_runs 3 = .ok (.iload_n 1, 1) := by decide +kernel
theorem dX6_runs_4 : decode cX6_runs 4 = .ok (.if_icmp .ge 127, 3) := by decide +kernel
theorem dX6_runs_7 : decode cX6_runs 7 = .ok (.aload_n 0, 1) := by decide +kernel
theorem dX6_runs_8 : decode cX6_runs 8 = .ok (.iload_n 3, 1) := by decide +kernel
theorem dX6_runs_9 : decode cX6_runs 9 = .ok (.iload_n 1, 1) := by decide +kernel
theorem dX6_runs_10 : decode cX6_runs 10 = .ok (.invokevirtual 110, 3) := by decide +kernel
theorem dX6_runs_13 : decode cX6_runs 13 = .ok (.istore 4, 2) := by decide +kernel
theorem dX6_runs_15 : decode cX6_runs 15 = .ok (.iload 4, 2) := by decide +kernel
theorem dX6_runs_17 : decode cX6_runs 17 = .ok (.bipush 8, 2) := by decide +kernel
theorem dX6_runs_19 : decode cX6_runs 19 = .ok (.if_icmp .lt 39, 3) := by decide +kernel
theorem dX6_runs_22 : decode cX6_runs 22 = .ok (.aload_n 0, 1) := by decide +kernel
theorem dX6_runs_23 : decode cX6_runs 23 = .ok (.ldc2_w 114, 3) := by decide +kernel
theorem dX6_runs_26 : decode cX6_runs 26 = .ok (.iload 4, 2) := by decide +kernel
theorem dX6_runs_28 : decode cX6_runs 28 = .ok (.i2l, 1) := by decide +kernel
theorem dX6_runs_29 : decode cX6_runs 29 = .ok (.lmul, 1) := by decide +kernel
theorem dX6_runs_30 : decode cX6_runs 30 = .ok (.invokevirtual 106, 3) := by decide +kernel
theorem dX6_runs_33 : decode cX6_runs 33 = .ok (.aload_n 0, 1) := by decide +kernel
theorem dX6_runs_34 : decode cX6_runs 34 = .ok (.aload_n 0, 1) := by decide +kernel
theorem dX6_runs_35 : decode cX6_runs 35 = .ok (.getfield 42, 3) := by decide +kernel
theorem dX6_runs_38 : decode cX6_runs 38 = .ok (.iload_n 3, 1) := by decide +kernel
theorem dX6_runs_39 : decode cX6_runs 39 = .ok (.laload, 1) := by decide +kernel
theorem dX6_runs_40 : decode cX6_runs 40 = .ok (.iload_n 2, 1) := by decide +kernel
theorem dX6_runs_41 : decode cX6_runs 41 = .ok (.bipush 7, 2) := by decide +kernel
theorem dX6_runs_43 : decode cX6_runs 43 = .ok (.iadd, 1) := by decide +kernel
theorem dX6_runs_44 : decode cX6_runs 44 = .ok (.bipush 8, 2) := by decide +kernel
theorem dX6_runs_46 : decode cX6_runs 46 = .ok (.idiv, 1) := by decide +kernel
theorem dX6_runs_47 : decode cX6_runs 47 = .ok (.invokevirtual 116, 3) := by decide +kernel
theorem dX6_runs_50 : decode cX6_runs 50 = .ok (.iload_n 3, 1) := by decide +kernel
theorem dX6_runs_51 : decode cX6_runs 51 = .ok (.iload 4, 2) := by decide +kernel
theorem dX6_runs_53 : decode cX6_runs 53 = .ok (.iadd, 1) := by decide +kernel
theorem dX6_runs_54 : decode cX6_runs 54 = .ok (.istore_n 3, 1) := by decide +kernel
theorem dX6_runs_55 : decode cX6_runs 55 = .ok (.goto 73, 3) := by decide +kernel
theorem dX6_runs_58 : decode cX6_runs 58 = .ok (.iconst 1, 1) := by decide +kernel
theorem dX6_runs_59 : decode cX6_runs 59 = .ok (.istore 5, 2) := by decide +kernel
theorem dX6_runs_61 : decode cX6_runs 61 = .ok (.iload_n 3, 1) := by decide +kernel
theorem dX6_runs_62 : decode cX6_runs 62 = .ok (.bipush 8, 2) := by decide +kernel
theorem dX6_runs_64 : decode cX6_runs 64 = .ok (.iload 5, 2) := by decide +kernel
theorem dX6_runs_66 : decode cX6_runs 66 = .ok (.imul, 1) := by decide +kernel
theorem dX6_runs_67 : decode cX6_runs 67 = .ok (.iadd, 1) := by decide +kernel
theorem dX6_runs_68 : decode cX6_runs 68 = .ok (.iload_n 1, 1) := by decide +kernel
theorem dX6_runs_69 : decode cX6_runs 69 = .ok (.if_icmp .ge 26, 3) := by decide +kernel
theorem dX6_runs_72 : decode cX6_runs 72 = .ok (.aload_n 0, 1) := by decide +kernel
theorem dX6_runs_73 : decode cX6_runs 73 = .ok (.iload_n 3, 1) := by decide +kernel
theorem dX6_runs_74 : decode cX6_runs 74 = .ok (.bipush 8, 2) := by decide +kernel
theorem dX6_runs_76 : decode cX6_runs 76 = .ok (.iload 5, 2) := by decide +kernel
theorem dX6_runs_78 : decode cX6_runs 78 = .ok (.imul, 1) := by decide +kernel
theorem dX6_runs_79 : decode cX6_runs 79 = .ok (.iadd, 1) := by decide +kernel
theorem dX6_runs_80 : decode cX6_runs 80 = .ok (.iload_n 1, 1) := by decide +kernel
theorem dX6_runs_81 : decode cX6_runs 81 = .ok (.invokevirtual 110, 3) := by decide +kernel
theorem dX6_runs_84 : decode cX6_runs 84 = .ok (.bipush 8, 2) := by decide +kernel
theorem dX6_runs_86 : decode cX6_runs 86 = .ok (.if_icmp .ge 9, 3) := by decide +kernel
theorem dX6_runs_89 : decode cX6_runs 89 = .ok (.iinc 5 1, 3) := by decide +kernel
theorem dX6_runs_92 : decode cX6_runs 92 = .ok (.goto (-31), 3) := by decide +kernel
theorem dX6_runs_95 : decode cX6_runs 95 = .ok (.aload_n 0, 1) := by decide +kernel
theorem dX6_runs_96 : decode cX6_runs 96 = .ok (.ldc2_w 114, 3) := by decide +kernel
theorem dX6_runs_99 : decode cX6_runs 99 = .ok (.iload 5, 2) := by decide +kernel
theorem dX6_runs_101 : decode cX6_runs 101 = .ok (.i2l, 1) := by decide +kernel
theorem dX6_runs_102 : decode cX6_runs 102 = .ok (.lmul, 1) := by decide +kernel
theorem dX6_runs_103 : decode cX6_runs 103 = .ok (.lconst 1, 1) := by decide +kernel
theorem dX6_runs_104 : decode cX6_runs 104 = .ok (.ladd, 1) := by decide +kernel
theorem dX6_runs_105 : decode cX6_runs 105 = .ok (.invokevirtual 106, 3) := by decide +kernel
theorem dX6_runs_108 : decode cX6_runs 108 = .ok (.aload_n 0, 1) := by decide +kernel
theorem dX6_runs_109 : decode cX6_runs 109 = .ok (.iload_n 3, 1) := by decide +kernel
theorem dX6_runs_110 : decode cX6_runs 110 = .ok (.bipush 8, 2) := by decide +kernel
theorem dX6_runs_112 : decode cX6_runs 112 = .ok (.iload 5, 2) := by decide +kernel
theorem dX6_runs_114 : decode cX6_runs 114 = .ok (.imul, 1) := by decide +kernel
theorem dX6_runs_115 : decode cX6_runs 115 = .ok (.iload_n 1, 1) := by decide +kernel
theorem dX6_runs_116 : decode cX6_runs 116 = .ok (.iload_n 2, 1) := by decide +kernel
theorem dX6_runs_117 : decode cX6_runs 117 = .ok (.invokevirtual 120, 3) := by decide +kernel
theorem dX6_runs_120 : decode cX6_runs 120 = .ok (.iload_n 3, 1) := by decide +kernel
theorem dX6_runs_121 : decode cX6_runs 121 = .ok (.bipush 8, 2) := by decide +kernel
theorem dX6_runs_123 : decode cX6_runs 123 = .ok (.iload 5, 2) := by decide +kernel
theorem dX6_runs_125 : decode cX6_runs 125 = .ok (.imul, 1) := by decide +kernel
theorem dX6_runs_126 : decode cX6_runs 126 = .ok (.iadd, 1) := by decide +kernel
theorem dX6_runs_127 : decode cX6_runs 127 = .ok (.istore_n 3, 1) := by decide +kernel
theorem dX6_runs_128 : decode cX6_runs 128 = .ok (.goto (-126), 3) := by decide +kernel
theorem dX6_runs_131 : decode cX6_runs 131 = .ok (.return_, 1) := by decide +kernel
theorem dX6_widthOf_0 : decode cX6_widthOf 0 = .ok (.iconst 0, 1) := by decide +kernel
theorem dX6_widthOf_1 : decode cX6_widthOf 1 = .ok (.istore_n 2, 1) := by decide +kernel
theorem dX6_widthOf_2 : decode cX6_widthOf 2 = .ok (.lload_n 0, 1) := by decide +kernel
theorem dX6_widthOf_3 : decode cX6_widthOf 3 = .ok (.lstore_n 3, 1) := by decide +kernel
theorem dX6_widthOf_4 : decode cX6_widthOf 4 = .ok (.lload_n 3, 1) := by decide +kernel
theorem dX6_widthOf_5 : decode cX6_widthOf 5 = .ok (.lconst 0, 1) := by decide +kernel
theorem dX6_widthOf_6 : decode cX6_widthOf 6 = .ok (.lcmp, 1) := by decide +kernel
theorem dX6_widthOf_7 : decode cX6_widthOf 7 = .ok (.ifCond .eq 13, 3) := by decide +kernel
theorem dX6_widthOf_10 : decode cX6_widthOf 10 = .ok (.lload_n 3, 1) := by decide +kernel
theorem dX6_widthOf_11 : decode cX6_widthOf 11 = .ok (.iconst 1, 1) := by decide +kernel
theorem dX6_widthOf_12 : decode cX6_widthOf 12 = .ok (.lushr, 1) := by decide +kernel
theorem dX6_widthOf_13 : decode cX6_widthOf 13 = .ok (.lstore_n 3, 1) := by decide +kernel
theorem dX6_widthOf_14 : decode cX6_widthOf 14 = .ok (.iinc 2 1, 3) := by decide +kernel
theorem dX6_widthOf_17 : decode cX6_widthOf 17 = .ok (.goto (-13), 3) := by decide +kernel
theorem dX6_widthOf_20 : decode cX6_widthOf 20 = .ok (.iload_n 2, 1) := by decide +kernel
theorem dX6_widthOf_21 : decode cX6_widthOf 21 = .ok (.ireturn, 1) := by decide +kernel
theorem dX6_differences_0 : decode cX6_differences 0 = .ok (.aload_n 0, 1) := by decide +kernel
theorem dX6_differences_1 : decode cX6_differences 1 = .ok (.ldc2_w 124, 3) := by decide +kernel
theorem dX6_differences_4 : decode cX6_differences 4 = .ok (.invokevirtual 106, 3) := by decide +kernel
theorem dX6_differences_7 : decode cX6_differences 7 = .ok (.aload_n 0, 1) := by decide +kernel
theorem dX6_differences_8 : decode cX6_differences 8 = .ok (.ldc2_w 86, 3) := by decide +kernel
theorem dX6_differences_11 : decode cX6_differences 11 = .ok (.invokevirtual 106, 3) := by decide +kernel
theorem dX6_differences_14 : decode cX6_differences 14 = .ok (.aload_n 0, 1) := by decide +kernel
theorem dX6_differences_15 : decode cX6_differences 15 = .ok (.iload_n 1, 1) := by decide +kernel
theorem dX6_differences_16 : decode cX6_differences 16 = .ok (.i2l, 1) := by decide +kernel
theorem dX6_differences_17 : decode cX6_differences 17 = .ok (.invokevirtual 106, 3) := by decide +kernel
theorem dX6_differences_20 : decode cX6_differences 20 = .ok (.aload_n 0, 1) := by decide +kernel
theorem dX6_differences_21 : decode cX6_differences 21 = .ok (.iload_n 1, 1) := by decide +kernel
theorem dX6_differences_22 : decode cX6_differences 22 = .ok (.ifCond .ne 7, 3) := by decide +kernel
theorem dX6_differences_25 : decode cX6_differences 25 = .ok (.lconst 0, 1) := by decide +kernel
theorem dX6_differences_26 : decode cX6_differences 26 = .ok (.goto 9, 3) := by decide +kernel
theorem dX6_differences_29 : decode cX6_differences 29 = .ok (.aload_n 0, 1) := by decide +kernel
theorem dX6_differences_30 : decode cX6_differences 30 = .ok (.getfield 42, 3) := by decide +kernel
theorem dX6_differences_33 : decode cX6_differences 33 = .ok (.iconst 0, 1) := by decide +kernel
theorem dX6_differences_34 : decode cX6_differences 34 = .ok (.laload, 1) := by decide +kernel
theorem dX6_differences_35 : decode cX6_differences 35 = .ok (.invokevirtual 126, 3) := by decide +kernel
theorem dX6_differences_38 : decode cX6_differences 38 = .ok (.iconst 1, 1) := by decide +kernel
theorem dX6_differences_39 : decode cX6_differences 39 = .ok (.istore_n 3, 1) := by decide +kernel
theorem dX6_differences_40 : decode cX6_differences 40 = .ok (.iload_n 3, 1) := by decide +kernel
theorem dX6_differences_41 : decode cX6_differences 41 = .ok (.iload_n 1, 1) := by decide +kernel
theorem dX6_differences_42 : decode cX6_differences 42 = .ok (.if_icmp .ge 57, 3) := by decide +kernel
theorem dX6_differences_45 : decode cX6_differences 45 = .ok (.aload_n 0, 1) := by decide +kernel
theorem dX6_differences_46 : decode cX6_differences 46 = .ok (.getfield 45, 3) := by decide +kernel
theorem dX6_differences_49 : decode cX6_differences 49 = .ok (.iload_n 3, 1) := by decide +kernel
theorem dX6_differences_50 : decode cX6_differences 50 = .ok (.iconst 1, 1) := by decide +kernel
theorem dX6_differences_51 : decode cX6_differences 51 = .ok (.isub, 1) := by decide +kernel
theorem dX6_differences_52 : decode cX6_differences 52 = .ok (.iload_n 2, 1) := by decide +kernel
theorem dX6_differences_53 : decode cX6_differences 53 = .ok (.ifCond .eq 24, 3) := by decide +kernel
theorem dX6_differences_56 : decode cX6_differences 56 = .ok (.aload_n 0, 1) := by decide +kernel
theorem dX6_differences_57 : decode cX6_differences 57 = .ok (.getfield 42, 3) := by decide +kernel
theorem dX6_differences_60 : decode cX6_differences 60 = .ok (.iload_n 3, 1) := by decide +kernel
theorem dX6_differences_61 : decode cX6_differences 61 = .ok (.laload, 1) := by decide +kernel
theorem dX6_differences_62 : decode cX6_differences 62 = .ok (.l2i, 1) := by decide +kernel
theorem dX6_differences_63 : decode cX6_differences 63 = .ok (.aload_n 0, 1) := by decide +kernel
theorem dX6_differences_64 : decode cX6_differences 64 = .ok (.getfield 42, 3) := by decide +kernel
theorem dX6_differences_67 : decode cX6_differences 67 = .ok (.iload_n 3, 1) := by decide +kernel
theorem dX6_differences_68 : decode cX6_differences 68 = .ok (.iconst 1, 1) := by decide +kernel
theorem dX6_differences_69 : decode cX6_differences 69 = .ok (.isub, 1) := by decide +kernel
theorem dX6_differences_70 : decode cX6_differences 70 = .ok (.laload, 1) := by decide +kernel
theorem dX6_differences_71 : decode cX6_differences 71 = .ok (.l2i, 1) := by decide +kernel
theorem dX6_differences_72 : decode cX6_differences 72 = .ok (.isub, 1) := by decide +kernel
theorem dX6_differences_73 : decode cX6_differences 73 = .ok (.i2l, 1) := by decide +kernel
theorem dX6_differences_74 : decode cX6_differences 74 = .ok (.goto 18, 3) := by decide +kernel
theorem dX6_differences_77 : decode cX6_differences 77 = .ok (.aload_n 0, 1) := by decide +kernel
theorem dX6_differences_78 : decode cX6_differences 78 = .ok (.getfield 42, 3) := by decide +kernel
theorem dX6_differences_81 : decode cX6_differences 81 = .ok (.iload_n 3, 1) := by decide +kernel
theorem dX6_differences_82 : decode cX6_differences 82 = .ok (.laload, 1) := by decide +kernel
theorem dX6_differences_83 : decode cX6_differences 83 = .ok (.aload_n 0, 1) := by decide +kernel
theorem dX6_differences_84 : decode cX6_differences 84 = .ok (.getfield 42, 3) := by decide +kernel
theorem dX6_differences_87 : decode cX6_differences 87 = .ok (.iload_n 3, 1) := by decide +kernel
theorem dX6_differences_88 : decode cX6_differences 88 = .ok (.iconst 1, 1) := by decide +kernel
theorem dX6_differences_89 : decode cX6_differences 89 = .ok (.isub, 1) := by decide +kernel
theorem dX6_differences_90 : decode cX6_differences 90 = .ok (.laload, 1) := by decide +kernel
theorem dX6_differences_91 : decode cX6_differences 91 = .ok (.lsub, 1) := by decide +kernel
theorem dX6_differences_92 : decode cX6_differences 92 = .ok (.lastore, 1) := by decide +kernel
theorem dX6_differences_93 : decode cX6_differences 93 = .ok (.iinc 3 1, 3) := by decide +kernel
theorem dX6_differences_96 : decode cX6_differences 96 = .ok (.goto (-56), 3) := by decide +kernel
theorem dX6_differences_99 : decode cX6_differences 99 = .ok (.iconst 0, 1) := by decide +kernel
theorem dX6_differences_100 : decode cX6_differences 100 = .ok (.istore_n 3, 1) := by decide +kernel
theorem dX6_differences_101 : decode cX6_differences 101 = .ok (.iload_n 3, 1) := by decide +kernel
theorem dX6_differences_102 : decode cX6_differences 102 = .ok (.iload_n 1, 1) := by decide +kernel
theorem dX6_differences_103 : decode cX6_differences 103 = .ok (.iconst 1, 1) := by decide +kernel
theorem dX6_differences_104 : decode cX6_differences 104 = .ok (.isub, 1) := by decide +kernel
theorem dX6_differences_105 : decode cX6_differences 105 = .ok (.if_icmp .ge 234, 3) := by decide +kernel
theorem dX6_differences_108 : decode cX6_differences 108 = .ok (.iload_n 3, 1) := by decide +kernel
theorem dX6_differences_109 : decode cX6_differences 109 = .ok (.sipush 128, 3) := by decide +kernel
theorem dX6_differences_112 : decode cX6_differences 112 = .ok (.iadd, 1) := by decide +kernel
theorem dX6_differences_113 : decode cX6_differences 113 = .ok (.iload_n 1, 1) := by decide +kernel
theorem dX6_differences_114 : decode cX6_differences 114 = .ok (.iconst 1, 1) := by decide +kernel
theorem dX6_differences_115 : decode cX6_differences 115 = .ok (.isub, 1) := by decide +kernel
theorem dX6_differences_116 : decode cX6_differences 116 = .ok (.if_icmp .ge 11, 3) := by decide +kernel
theorem dX6_differences_119 : decode cX6_differences 119 = .ok (.iload_n 3, 1) := by decide +kernel
theorem dX6_differences_120 : decode cX6_differences 120 = .ok (.sipush 128, 3) := by decide +kernel
theorem dX6_differences_123 : decode cX6_differences 123 = .ok (.iadd, 1) := by decide +kernel
theorem dX6_differences_124 : decode cX6_differences 124 = .ok (.goto 6, 3) := by decide +kernel
theorem dX6_differences_127 : decode cX6_differences 127 = .ok (.iload_n 1, 1) := by decide +kernel
theorem dX6_differences_128 : decode cX6_differences 128 = .ok (.iconst 1, 1) := by decide +kernel
theorem dX6_differences_129 : decode cX6_differences 129 = .ok (.isub, 1) := by decide +kernel
theorem dX6_differences_130 : decode cX6_differences 130 = .ok (.istore 4, 2) := by decide +kernel
theorem dX6_differences_132 : decode cX6_differences 132 = .ok (.aload_n 0, 1) := by decide +kernel
theorem dX6_differences_133 : decode cX6_differences 133 = .ok (.getfield 45, 3) := by decide +kernel
theorem dX6_differences_136 : decode cX6_differences 136 = .ok (.iload_n 3, 1) := by decide +kernel
theorem dX6_differences_137 : decode cX6_differences 137 = .ok (.laload, 1) := by decide +kernel
theorem dX6_differences_138 : decode cX6_differences 138 = .ok (.lstore 5, 2) := by decide +kernel
theorem dX6_differences_140 : decode cX6_differences 140 = .ok (.iload_n 3, 1) := by decide +kernel
theorem dX6_differences_141 : decode cX6_differences 141 = .ok (.istore 7, 2) := by decide +kernel
theorem dX6_differences_143 : decode cX6_differences 143 = .ok (.iload 7, 2) := by decide +kernel
theorem dX6_differences_145 : decode cX6_differences 145 = .ok (.iload 4, 2) := by decide +kernel
theorem dX6_differences_147 : decode cX6_differences 147 = .ok (.if_icmp .ge 36, 3) := by decide +kernel
theorem dX6_differences_150 : decode cX6_differences 150 = .ok (.aload_n 0, 1) := by decide +kernel
theorem dX6_differences_151 : decode cX6_differences 151 = .ok (.getfield 45, 3) := by decide +kernel
theorem dX6_differences_154 : decode cX6_differences 154 = .ok (.iload 7, 2) := by decide +kernel
theorem dX6_differences_156 : decode cX6_differences 156 = .ok (.laload, 1) := by decide +kernel
theorem dX6_differences_157 : decode cX6_differences 157 = .ok (.lload 5, 2) := by decide +kernel
theorem dX6_differences_159 : decode cX6_differences 159 = .ok (.lcmp, 1) := by decide +kernel
theorem dX6_differences_160 : decode cX6_differences 160 = .ok (.ifCond .ge 13, 3) := by decide +kernel
theorem dX6_differences_163 : decode cX6_differences 163 = .ok (.aload_n 0, 1) := by decide +kernel
theorem dX6_differences_164 : decode cX6_differences 164 = .ok (.getfield 45, 3) := by decide +kernel
theorem dX6_differences_167 : decode cX6_differences 167 = .ok (.iload 7, 2) := by decide +kernel
theorem dX6_differences_169 : decode cX6_differences 169 = .ok (.laload, 1) := by decide +kernel
theorem dX6_differences_170 : decode cX6_differences 170 = .ok (.goto 5, 3) := by decide +kernel
theorem dX6_differences_173 : decode cX6_differences 173 = .ok (.lload 5, 2) := by decide +kernel
theorem dX6_differences_175 : decode cX6_differences 175 = .ok (.lstore 5, 2) := by decide +kernel
theorem dX6_differences_177 : decode cX6_differences 177 = .ok (.iinc 7 1, 3) := by decide +kernel
theorem dX6_differences_180 : decode cX6_differences 180 = .ok (.goto (-37), 3) := by decide +kernel
theorem dX6_differences_183 : decode cX6_differences 183 = .ok (.aload_n 0, 1) := by decide +kernel
theorem dX6_differences_184 : decode cX6_differences 184 = .ok (.lload 5, 2) := by decide +kernel
theorem dX6_differences_186 : decode cX6_differences 186 = .ok (.invokevirtual 126, 3) := by decide +kernel
theorem dX6_differences_189 : decode cX6_differences 189 = .ok (.iload_n 3, 1) := by decide +kernel
theorem dX6_differences_190 : decode cX6_differences 190 = .ok (.istore 7, 2) := by decide +kernel
theorem dX6_differences_192 : decode cX6_differences 192 = .ok (.iload 7, 2) := by decide +kernel
theorem dX6_differences_194 : decode cX6_differences 194 = .ok (.iload 4, 2) := by decide +kernel
theorem dX6_differences_196 : decode cX6_differences 196 = .ok (.if_icmp .ge 47, 3) := by decide +kernel
theorem dX6_differences_199 : decode cX6_differences 199 = .ok (.aload_n 0, 1) := by decide +kernel
theorem dX6_differences_200 : decode cX6_differences 200 = .ok (.getfield 42, 3) := by decide +kernel
theorem dX6_differences_203 : decode cX6_differences 203 = .ok (.iload 7, 2) := by decide +kernel
theorem dX6_differences_205 : decode cX6_differences 205 = .ok (.iload_n 2, 1) := by decide +kernel
theorem dX6_differences_206 : decode cX6_differences 206 = .ok (.ifCond .eq 20, 3) := by decide +kernel
theorem dX6_differences_209 : decode cX6_differences 209 = .ok (.aload_n 0, 1) := by decide +kernel
theorem dX6_differences_210 : decode cX6_differences 210 = .ok (.getfield 45, 3) := by decide +kernel
theorem dX6_differences_213 : decode cX6_differences 213 = .ok (.iload 7, 2) := by decide +kernel
theorem dX6_differences_215 : decode cX6_differences 215 = .ok (.laload, 1) := by decide +kernel
theorem dX6_differences_216 : decode cX6_differences 216 = .ok (.lload 5, 2) := by decide +kernel
theorem dX6_differences_218 : decode cX6_differences 218 = .ok (.lsub, 1) := by decide +kernel
theorem dX6_differences_219 : decode cX6_differences 219 = .ok (.ldc2_w 129, 3) := by decide +kernel
theorem dX6_differences_222 : decode cX6_differences 222 = .ok (.land, 1) := by decide +kernel
theorem dX6_differences_223 : decode cX6_differences 223 = .ok (.goto 13, 3) := by decide +kernel
theorem dX6_differences_226 : decode cX6_differences 226 = .ok (.aload_n 0, 1) := by decide +kernel
theorem dX6_differences_227 : decode cX6_differences 227 = .ok (.getfield 45, 3) := by decide +kernel
theorem dX6_differences_230 : decode cX6_differences 230 = .ok (.iload 7, 2) := by decide +kernel
theorem dX6_differences_232 : decode cX6_differences 232 = .ok (.laload, 1) := by decide +kernel
theorem dX6_differences_233 : decode cX6_differences 233 = .ok (.lload 5, 2) := by decide +kernel
theorem dX6_differences_235 : decode cX6_differences 235 = .ok (.lsub, 1) := by decide +kernel
theorem dX6_differences_236 : decode cX6_differences 236 = .ok (.lastore, 1) := by decide +kernel
theorem dX6_differences_237 : decode cX6_differences 237 = .ok (.iinc 7 1, 3) := by decide +kernel
theorem dX6_differences_240 : decode cX6_differences 240 = .ok (.goto (-48), 3) := by decide +kernel
theorem dX6_differences_243 : decode cX6_differences 243 = .ok (.iconst 0, 1) := by decide +kernel
theorem dX6_differences_244 : decode cX6_differences 244 = .ok (.istore 7, 2) := by decide +kernel
theorem dX6_differences_246 : decode cX6_differences 246 = .ok (.iload 7, 2) := by decide +kernel
theorem dX6_differences_248 : decode cX6_differences 248 = .ok (.iconst 4, 1) := by decide +kernel
theorem dX6_differences_249 : decode cX6_differences 249 = .ok (.if_icmp .ge 26, 3) := by decide +kernel
theorem dX6_differences_252 : decode cX6_differences 252 = .ok (.aload_n 0, 1) := by decide +kernel
theorem dX6_differences_253 : decode cX6_differences 253 = .ok (.aload_n 0, 1) := by decide +kernel
theorem dX6_differences_254 : decode cX6_differences 254 = .ok (.iload_n 3, 1) := by decide +kernel
theorem dX6_differences_255 : decode cX6_differences 255 = .ok (.bipush 32, 2) := by decide +kernel
theorem dX6_differences_257 : decode cX6_differences 257 = .ok (.iload 7, 2) := by decide +kernel
theorem dX6_differences_259 : decode cX6_differences 259 = .ok (.imul, 1) := by decide +kernel
theorem dX6_differences_260 : decode cX6_differences 260 = .ok (.iadd, 1) := by decide +kernel
theorem dX6_differences_261 : decode cX6_differences 261 = .ok (.iload 4, 2) := by decide +kernel
theorem dX6_differences_263 : decode cX6_differences 263 = .ok (.invokevirtual 131, 3) := by decide +kernel
theorem dX6_differences_266 : decode cX6_differences 266 = .ok (.invokevirtual 98, 3) := by decide +kernel
theorem dX6_differences_269 : decode cX6_differences 269 = .ok (.iinc 7 1, 3) := by decide +kernel
theorem dX6_differences_272 : decode cX6_differences 272 = .ok (.goto (-26), 3) := by decide +kernel
theorem dX6_differences_275 : decode cX6_differences 275 = .ok (.iconst 0, 1) := by decide +kernel
theorem dX6_differences_276 : decode cX6_differences 276 = .ok (.istore 7, 2) := by decide +kernel
theorem dX6_differences_278 : decode cX6_differences 278 = .ok (.iload 7, 2) := by decide +kernel
theorem dX6_differences_280 : decode cX6_differences 280 = .ok (.iconst 4, 1) := by decide +kernel
theorem dX6_differences_281 : decode cX6_differences 281 = .ok (.if_icmp .ge 49, 3) := by decide +kernel
theorem dX6_differences_284 : decode cX6_differences 284 = .ok (.iload_n 3, 1) := by decide +kernel
theorem dX6_differences_285 : decode cX6_differences 285 = .ok (.bipush 32, 2) := by decide +kernel
theorem dX6_differences_287 : decode cX6_differences 287 = .ok (.iload 7, 2) := by decide +kernel
theorem dX6_differences_289 : decode cX6_differences 289 = .ok (.imul, 1) := by decide +kernel
theorem dX6_differences_290 : decode cX6_differences 290 = .ok (.iadd, 1) := by decide +kernel
theorem dX6_differences_291 : decode cX6_differences 291 = .ok (.iload 4, 2) := by decide +kernel
theorem dX6_differences_293 : decode cX6_differences 293 = .ok (.if_icmp .ge 31, 3) := by decide +kernel
theorem dX6_differences_296 : decode cX6_differences 296 = .ok (.aload_n 0, 1) := by decide +kernel
theorem dX6_differences_297 : decode cX6_differences 297 = .ok (.iload_n 3, 1) := by decide +kernel
theorem dX6_differences_298 : decode cX6_differences 298 = .ok (.bipush 32, 2) := by decide +kernel
theorem dX6_differences_300 : decode cX6_differences 300 = .ok (.iload 7, 2) := by decide +kernel
theorem dX6_differences_302 : decode cX6_differences 302 = .ok (.imul, 1) := by decide +kernel
theorem dX6_differences_303 : decode cX6_differences 303 = .ok (.iadd, 1) := by decide +kernel
theorem dX6_differences_304 : decode cX6_differences 304 = .ok (.bipush 32, 2) := by decide +kernel
theorem dX6_differences_306 : decode cX6_differences 306 = .ok (.iload 4, 2) := by decide +kernel
theorem dX6_differences_308 : decode cX6_differences 308 = .ok (.aload_n 0, 1) := by decide +kernel
theorem dX6_differences_309 : decode cX6_differences 309 = .ok (.iload_n 3, 1) := by decide +kernel
theorem dX6_differences_310 : decode cX6_differences 310 = .ok (.bipush 32, 2) := by decide +kernel
theorem dX6_differences_312 : decode cX6_differences 312 = .ok (.iload 7, 2) := by decide +kernel
theorem dX6_differences_314 : decode cX6_differences 314 = .ok (.imul, 1) := by decide +kernel
theorem dX6_differences_315 : decode cX6_differences 315 = .ok (.iadd, 1) := by decide +kernel
theorem dX6_differences_316 : decode cX6_differences 316 = .ok (.iload 4, 2) := by decide +kernel
theorem dX6_differences_318 : decode cX6_differences 318 = .ok (.invokevirtual 131, 3) := by decide +kernel
theorem dX6_differences_321 : decode cX6_differences 321 = .ok (.invokevirtual 120, 3) := by decide +kernel
theorem dX6_differences_324 : decode cX6_differences 324 = .ok (.iinc 7 1, 3) := by decide +kernel
theorem dX6_differences_327 : decode cX6_differences 327 = .ok (.goto (-49), 3) := by decide +kernel
theorem dX6_differences_330 : decode cX6_differences 330 = .ok (.iinc 3 128, 6) := by decide +kernel
theorem dX6_differences_336 : decode cX6_differences 336 = .ok (.goto (-235), 3) := by decide +kernel
theorem dX6_differences_339 : decode cX6_differences 339 = .ok (.return_, 1) := by decide +kernel
theorem dX6_partWidth_0 : decode cX6_partWidth 0 = .ok (.iconst 0, 1) := by decide +kernel
theorem dX6_partWidth_1 : decode cX6_partWidth 1 = .ok (.istore_n 3, 1) := by decide +kernel
theorem dX6_partWidth_2 : decode cX6_partWidth 2 = .ok (.iload_n 1, 1) := by decide +kernel
theorem dX6_partWidth_3 : decode cX6_partWidth 3 = .ok (.istore 4, 2) := by decide +kernel
theorem dX6_partWidth_5 : decode cX6_partWidth 5 = .ok (.iload 4, 2) := by decide +kernel
theorem dX6_partWidth_7 : decode cX6_partWidth 7 = .ok (.iload_n 1, 1) := by decide +kernel
theorem dX6_partWidth_8 : decode cX6_partWidth 8 = .ok (.bipush 32, 2) := by decide +kernel
theorem dX6_partWidth_10 : decode cX6_partWidth 10 = .ok (.iadd, 1) := by decide +kernel
theorem dX6_partWidth_11 : decode cX6_partWidth 11 = .ok (.if_icmp .ge 44, 3) := by decide +kernel
theorem dX6_partWidth_14 : decode cX6_partWidth 14 = .ok (.iload 4, 2) := by decide +kernel
theorem dX6_partWidth_16 : decode cX6_partWidth 16 = .ok (.iload_n 2, 1) := by decide +kernel
theorem dX6_partWidth_17 : decode cX6_partWidth 17 = .ok (.if_icmp .ge 38, 3) := by decide +kernel
theorem dX6_partWidth_20 : decode cX6_partWidth 20 = .ok (.aload_n 0, 1) := by decide +kernel
theorem dX6_partWidth_21 : decode cX6_partWidth 21 = .ok (.getfield 42, 3) := by decide +kernel
theorem dX6_partWidth_24 : decode cX6_partWidth 24 = .ok (.iload 4, 2) := by decide +kernel
theorem dX6_partWidth_26 : decode cX6_partWidth 26 = .ok (.laload, 1) := by decide +kernel
theorem dX6_partWidth_27 : decode cX6_partWidth 27 = .ok (.invokestatic 134, 3) := by decide +kernel
theorem dX6_partWidth_30 : decode cX6_partWidth 30 = .ok (.iload_n 3, 1) := by decide +kernel
theorem dX6_partWidth_31 : decode cX6_partWidth 31 = .ok (.if_icmp .le 16, 3) := by decide +kernel
theorem dX6_partWidth_34 : decode cX6_partWidth 34 = .ok (.aload_n 0, 1) := by decide +kernel
theorem dX6_partWidth_35 : decode cX6_partWidth 35 = .ok (.getfield 42, 3) := by decide +kernel
theorem dX6_partWidth_38 : decode cX6_partWidth 38 = .ok (.iload 4, 2) := by decide +kernel
theorem dX6_partWidth_40 : decode cX6_partWidth 40 = .ok (.laload, 1) := by decide +kernel
theorem dX6_partWidth_41 : decode cX6_partWidth 41 = .ok (.invokestatic 134, 3) := by decide +kernel
theorem dX6_partWidth_44 : decode cX6_partWidth 44 = .ok (.goto 4, 3) := by decide +kernel
theorem dX6_partWidth_47 : decode cX6_partWidth 47 = .ok (.iload_n 3, 1) := by decide +kernel
theorem dX6_partWidth_48 : decode cX6_partWidth 48 = .ok (.istore_n 3, 1) := by decide +kernel
theorem dX6_partWidth_49 : decode cX6_partWidth 49 = .ok (.iinc 4 1, 3) := by decide +kernel
theorem dX6_partWidth_52 : decode cX6_partWidth 52 = .ok (.goto (-47), 3) := by decide +kernel
theorem dX6_partWidth_55 : decode cX6_partWidth 55 = .ok (.iload_n 3, 1) := by decide +kernel
theorem dX6_partWidth_56 : decode cX6_partWidth 56 = .ok (.ireturn, 1) := by decide +kernel
theorem dX6_plain_0 : decode cX6_plain 0 = .ok (.iload_n 2, 1) := by decide +kernel
theorem dX6_plain_1 : decode cX6_plain 1 = .ok (.iconst 2, 1) := by decide +kernel
theorem dX6_plain_2 : decode cX6_plain 2 = .ok (.if_icmp .ne 22, 3) := by decide +kernel
theorem dX6_plain_5 : decode cX6_plain 5 = .ok (.aload_n 0, 1) := by decide +kernel
theorem dX6_plain_6 : decode cX6_plain 6 = .ok (.aload_n 0, 1) := by decide +kernel
theorem dX6_plain_7 : decode cX6_plain 7 = .ok (.getfield 23, 3) := by decide +kernel
theorem dX6_plain_10 : decode cX6_plain 10 = .ok (.iload_n 1, 1) := by decide +kernel
theorem dX6_plain_11 : decode cX6_plain 11 = .ok (.laload, 1) := by decide +kernel
theorem dX6_plain_12 : decode cX6_plain 12 = .ok (.iconst 4, 1) := by decide +kernel
theorem dX6_plain_13 : decode cX6_plain 13 = .ok (.invokevirtual 116, 3) := by decide +kernel
theorem dX6_plain_16 : decode cX6_plain 16 = .ok (.aload_n 0, 1) := by decide +kernel
theorem dX6_plain_17 : decode cX6_plain 17 = .ok (.iload_n 1, 1) := by decide +kernel
theorem dX6_plain_18 : decode cX6_plain 18 = .ok (.invokevirtual 138, 3) := by decide +kernel
theorem dX6_plain_21 : decode cX6_plain 21 = .ok (.goto 23, 3) := by decide +kernel
theorem dX6_plain_24 : decode cX6_plain 24 = .ok (.aload_n 0, 1) := by decide +kernel
theorem dX6_plain_25 : decode cX6_plain 25 = .ok (.aload_n 0, 1) := by decide +kernel
theorem dX6_plain_26 : decode cX6_plain 26 = .ok (.getfield 23, 3) := by decide +kernel
theorem dX6_plain_29 : decode cX6_plain 29 = .ok (.iload_n 1, 1) := by decide +kernel
theorem dX6_plain_30 : decode cX6_plain 30 = .ok (.laload, 1) := by decide +kernel
theorem dX6_plain_31 : decode cX6_plain 31 = .ok (.iload_n 2, 1) := by decide +kernel
theorem dX6_plain_32 : decode cX6_plain 32 = .ok (.ifCond .ne 7, 3) := by decide +kernel
theorem dX6_plain_35 : decode cX6_plain 35 = .ok (.iconst 4, 1) := by decide +kernel
theorem dX6_plain_36 : decode cX6_plain 36 = .ok (.goto 5, 3) := by decide +kernel
theorem dX6_plain_39 : decode cX6_plain 39 = .ok (.bipush 8, 2) := by decide +kernel
theorem dX6_plain_41 : decode cX6_plain 41 = .ok (.invokevirtual 116, 3) := by decide +kernel
theorem dX6_plain_44 : decode cX6_plain 44 = .ok (.return_, 1) := by decide +kernel
theorem dX6_letters_0 : decode cX6_letters 0 = .ok (.iconst 0, 1) := by decide +kernel
theorem dX6_letters_1 : decode cX6_letters 1 = .ok (.istore_n 2, 1) := by decide +kernel
theorem dX6_letters_2 : decode cX6_letters 2 = .ok (.iload_n 2, 1) := by decide +kernel
theorem dX6_letters_3 : decode cX6_letters 3 = .ok (.i2l, 1) := by decide +kernel
theorem dX6_letters_4 : decode cX6_letters 4 = .ok (.aload_n 0, 1) := by decide +kernel
theorem dX6_letters_5 : decode cX6_letters 5 = .ok (.getfield 23, 3) := by decide +kernel
theorem dX6_letters_8 : decode cX6_letters 8 = .ok (.iload_n 1, 1) := by decide +kernel
theorem dX6_letters_9 : decode cX6_letters 9 = .ok (.laload, 1) := by decide +kernel
theorem dX6_letters_10 : decode cX6_letters 10 = .ok (.lcmp, 1) := by decide +kernel
theorem dX6_letters_11 : decode cX6_letters 11 = .ok (.ifCond .ge 24, 3) := by decide +kernel
theorem dX6_letters_14 : decode cX6_letters 14 = .ok (.aload_n 0, 1) := by decide +kernel
theorem dX6_letters_15 : decode cX6_letters 15 = .ok (.aload_n 0, 1) := by decide +kernel
theorem dX6_letters_16 : decode cX6_letters 16 = .ok (.getfield 28, 3) := by decide +kernel
theorem dX6_letters_19 : decode cX6_letters 19 = .ok (.bipush 40, 2) := by decide +kernel
theorem dX6_letters_21 : decode cX6_letters 21 = .ok (.iload_n 1, 1) := by decide +kernel
theorem dX6_letters_22 : decode cX6_letters 22 = .ok (.imul, 1) := by decide +kernel
theorem dX6_letters_23 : decode cX6_letters 23 = .ok (.iload_n 2, 1) := by decide +kernel
theorem dX6_letters_24 : decode cX6_letters 24 = .ok (.iadd, 1) := by decide +kernel
theorem dX6_letters_25 : decode cX6_letters 25 = .ok (.baload, 1) := by decide +kernel
theorem dX6_letters_26 : decode cX6_letters 26 = .ok (.invokevirtual 98, 3) := by decide +kernel
theorem dX6_letters_29 : decode cX6_letters 29 = .ok (.iinc 2 1, 3) := by decide +kernel
theorem dX6_letters_32 : decode cX6_letters 32 = .ok (.goto (-30), 3) := by decide +kernel
theorem dX6_letters_35 : decode cX6_letters 35 = .ok (.return_, 1) := by decide +kernel
theorem dX6_head_0 : decode cX6_head 0 = .ok (.aload_n 0, 1) := by decide +kernel
theorem dX6_head_1 : decode cX6_head 1 = .ok (.bipush 21, 2) := by decide +kernel
theorem dX6_head_3 : decode cX6_head 3 = .ok (.invokevirtual 98, 3) := by decide +kernel
theorem dX6_head_6 : decode cX6_head 6 = .ok (.aload_n 0, 1) := by decide +kernel
theorem dX6_head_7 : decode cX6_head 7 = .ok (.iload_n 1, 1) := by decide +kernel
theorem dX6_head_8 : decode cX6_head 8 = .ok (.i2l, 1) := by decide +kernel
theorem dX6_head_9 : decode cX6_head 9 = .ok (.invokevirtual 126, 3) := by decide +kernel
theorem dX6_head_12 : decode cX6_head 12 = .ok (.aload_n 0, 1) := by decide +kernel
theorem dX6_head_13 : decode cX6_head 13 = .ok (.bipush 21, 2) := by decide +kernel
theorem dX6_head_15 : decode cX6_head 15 = .ok (.invokevirtual 98, 3) := by decide +kernel
theorem dX6_head_18 : decode cX6_head 18 = .ok (.aload_n 0, 1) := by decide +kernel
theorem dX6_head_19 : decode cX6_head 19 = .ok (.iload_n 2, 1) := by decide +kernel
theorem dX6_head_20 : decode cX6_head 20 = .ok (.i2l, 1) := by decide +kernel
theorem dX6_head_21 : decode cX6_head 21 = .ok (.invokevirtual 126, 3) := by decide +kernel
theorem dX6_head_24 : decode cX6_head 24 = .ok (.aload_n 0, 1) := by decide +kernel
theorem dX6_head_25 : decode cX6_head 25 = .ok (.bipush 21, 2) := by decide +kernel
theorem dX6_head_27 : decode cX6_head 27 = .ok (.invokevirtual 98, 3) := by decide +kernel
theorem dX6_head_30 : decode cX6_head 30 = .ok (.aload_n 0, 1) := by decide +kernel
theorem dX6_head_31 : decode cX6_head 31 = .ok (.iload_n 2, 1) := by decide +kernel
theorem dX6_head_32 : decode cX6_head 32 = .ok (.i2l, 1) := by decide +kernel
theorem dX6_head_33 : decode cX6_head 33 = .ok (.invokevirtual 126, 3) := by decide +kernel
theorem dX6_head_36 : decode cX6_head 36 = .ok (.aload_n 0, 1) := by decide +kernel
theorem dX6_head_37 : decode cX6_head 37 = .ok (.iload_n 1, 1) := by decide +kernel
theorem dX6_head_38 : decode cX6_head 38 = .ok (.ifCond .ne 8, 3) := by decide +kernel
theorem dX6_head_41 : decode cX6_head 41 = .ok (.bipush 44, 2) := by decide +kernel
theorem dX6_head_43 : decode cX6_head 43 = .ok (.goto 5, 3) := by decide +kernel
theorem dX6_head_46 : decode cX6_head 46 = .ok (.bipush 76, 2) := by decide +kernel
theorem dX6_head_48 : decode cX6_head 48 = .ok (.invokevirtual 98, 3) := by decide +kernel
theorem dX6_head_51 : decode cX6_head 51 = .ok (.aload_n 0, 1) := by decide +kernel
theorem dX6_head_52 : decode cX6_head 52 = .ok (.bipush 21, 2) := by decide +kernel
theorem dX6_head_54 : decode cX6_head 54 = .ok (.invokevirtual 98, 3) := by decide +kernel
theorem dX6_head_57 : decode cX6_head 57 = .ok (.aload_n 0, 1) := by decide +kernel
theorem dX6_head_58 : decode cX6_head 58 = .ok (.iload_n 3, 1) := by decide +kernel
theorem dX6_head_59 : decode cX6_head 59 = .ok (.i2l, 1) := by decide +kernel
theorem dX6_head_60 : decode cX6_head 60 = .ok (.invokevirtual 126, 3) := by decide +kernel
theorem dX6_head_63 : decode cX6_head 63 = .ok (.aload_n 0, 1) := by decide +kernel
theorem dX6_head_64 : decode cX6_head 64 = .ok (.bipush 21, 2) := by decide +kernel
theorem dX6_head_66 : decode cX6_head 66 = .ok (.invokevirtual 98, 3) := by decide +kernel
theorem dX6_head_69 : decode cX6_head 69 = .ok (.aload_n 0, 1) := by decide +kernel
theorem dX6_head_70 : decode cX6_head 70 = .ok (.iload 4, 2) := by decide +kernel
theorem dX6_head_72 : decode cX6_head 72 = .ok (.i2l, 1) := by decide +kernel
theorem dX6_head_73 : decode cX6_head 73 = .ok (.invokevirtual 126, 3) := by decide +kernel
theorem dX6_head_76 : decode cX6_head 76 = .ok (.aload_n 0, 1) := by decide +kernel
theorem dX6_head_77 : decode cX6_head 77 = .ok (.iconst 0, 1) := by decide +kernel
theorem dX6_head_78 : decode cX6_head 78 = .ok (.invokevirtual 98, 3) := by decide +kernel
theorem dX6_head_81 : decode cX6_head 81 = .ok (.aload_n 0, 1) := by decide +kernel
theorem dX6_head_82 : decode cX6_head 82 = .ok (.iconst 0, 1) := by decide +kernel
theorem dX6_head_83 : decode cX6_head 83 = .ok (.invokevirtual 98, 3) := by decide +kernel
theorem dX6_head_86 : decode cX6_head 86 = .ok (.return_, 1) := by decide +kernel
theorem dX6_makeDictionary_0 : decode cX6_makeDictionary 0 = .ok (.aload_n 0, 1) := by decide +kernel
theorem dX6_makeDictionary_1 : decode cX6_makeDictionary 1 = .ok (.getfield 17, 3) := by decide +kernel
theorem dX6_makeDictionary_4 : decode cX6_makeDictionary 4 = .ok (.iconst 5, 1) := by decide +kernel
theorem dX6_makeDictionary_5 : decode cX6_makeDictionary 5 = .ok (.iconst 0, 1) := by decide +kernel
theorem dX6_makeDictionary_6 : decode cX6_makeDictionary 6 = .ok (.iastore, 1) := by decide +kernel
theorem dX6_makeDictionary_7 : decode cX6_makeDictionary 7 = .ok (.iconst 0, 1) := by decide +kernel
theorem dX6_makeDictionary_8 : decode cX6_makeDictionary 8 = .ok (.istore_n 2, 1) := by decide +kernel
theorem dX6_makeDictionary_9 : decode cX6_makeDictionary 9 = .ok (.iload_n 2, 1) := by decide +kernel
theorem dX6_makeDictionary_10 : decode cX6_makeDictionary 10 = .ok (.aload_n 0, 1) := by decide +kernel
theorem dX6_makeDictionary_11 : decode cX6_makeDictionary 11 = .ok (.getfield 17, 3) := by decide +kernel
theorem dX6_makeDictionary_14 : decode cX6_makeDictionary 14 = .ok (.iload_n 1, 1) := by decide +kernel
theorem dX6_makeDictionary_15 : decode cX6_makeDictionary 15 = .ok (.iaload, 1) := by decide +kernel
theorem dX6_makeDictionary_16 : decode cX6_makeDictionary 16 = .ok (.if_icmp .ge 100, 3) := by decide +kernel
theorem dX6_makeDictionary_19 : decode cX6_makeDictionary 19 = .ok (.sipush 200, 3) := by decide +kernel
theorem dX6_makeDictionary_22 : decode cX6_makeDictionary 22 = .ok (.iload_n 1, 1) := by decide +kernel
theorem dX6_makeDictionary_23 : decode cX6_makeDictionary 23 = .ok (.imul, 1) := by decide +kernel
theorem dX6_makeDictionary_24 : decode cX6_makeDictionary 24 = .ok (.iload_n 2, 1) := by decide +kernel
theorem dX6_makeDictionary_25 : decode cX6_makeDictionary 25 = .ok (.iadd, 1) := by decide +kernel
theorem dX6_makeDictionary_26 : decode cX6_makeDictionary 26 = .ok (.istore_n 3, 1) := by decide +kernel
theorem dX6_makeDictionary_27 : decode cX6_makeDictionary 27 = .ok (.aload_n 0, 1) := by decide +kernel
theorem dX6_makeDictionary_28 : decode cX6_makeDictionary 28 = .ok (.getfield 20, 3) := by decide +kernel
theorem dX6_makeDictionary_31 : decode cX6_makeDictionary 31 = .ok (.iload_n 3, 1) := by decide +kernel
theorem dX6_makeDictionary_32 : decode cX6_makeDictionary 32 = .ok (.baload, 1) := by decide +kernel
theorem dX6_makeDictionary_33 : decode cX6_makeDictionary 33 = .ok (.ifCond .eq 77, 3) := by decide +kernel
theorem dX6_makeDictionary_36 : decode cX6_makeDictionary 36 = .ok (.iconst 0, 1) := by decide +kernel
theorem dX6_makeDictionary_37 : decode cX6_makeDictionary 37 = .ok (.istore 4, 2) := by decide +kernel
theorem dX6_makeDictionary_39 : decode cX6_makeDictionary 39 = .ok (.iload 4, 2) := by decide +kernel
theorem dX6_makeDictionary_41 : decode cX6_makeDictionary 41 = .ok (.aload_n 0, 1) := by decide +kernel
theorem dX6_makeDictionary_42 : decode cX6_makeDictionary 42 = .ok (.getfield 17, 3) := by decide +kernel
theorem dX6_makeDictionary_45 : decode cX6_makeDictionary 45 = .ok (.iconst 5, 1) := by decide +kernel
theorem dX6_makeDictionary_46 : decode cX6_makeDictionary 46 = .ok (.iaload, 1) := by decide +kernel
theorem dX6_makeDictionary_47 : decode cX6_makeDictionary 47 = .ok (.if_icmp .ge 23, 3) := by decide +kernel
theorem dX6_makeDictionary_50 : decode cX6_makeDictionary 50 = .ok (.aload_n 0, 1) := by decide +kernel
theorem dX6_makeDictionary_51 : decode cX6_makeDictionary 51 = .ok (.sipush 1000, 3) := by decide +kernel
theorem dX6_makeDictionary_54 : decode cX6_makeDictionary 54 = .ok (.iload 4, 2) := by decide +kernel
theorem dX6_makeDictionary_56 : decode cX6_makeDictionary 56 = .ok (.iadd, 1) := by decide +kernel
theorem dX6_makeDictionary_57 : decode cX6_makeDictionary 57 = .ok (.iload_n 3, 1) := by decide +kernel
theorem dX6_makeDictionary_58 : decode cX6_makeDictionary 58 = .ok (.invokevirtual 88, 3) := by decide +kernel
theorem dX6_makeDictionary_61 : decode cX6_makeDictionary 61 = .ok (.ifCond .ne 9, 3) := by decide +kernel
theorem dX6_makeDictionary_64 : decode cX6_makeDictionary 64 = .ok (.iinc 4 1, 3) := by decide +kernel
theorem dX6_makeDictionary_67 : decode cX6_makeDictionary 67 = .ok (.goto (-28), 3) := by decide +kernel
theorem dX6_makeDictionary_70 : decode cX6_makeDictionary 70 = .ok (.iload 4, 2) := by decide +kernel
theorem dX6_makeDictionary_72 : decode cX6_makeDictionary 72 = .ok (.aload_n 0, 1) := by decide +kernel
theorem dX6_makeDictionary_73 : decode cX6_makeDictionary 73 = .ok (.getfield 17, 3) := by decide +kernel
theorem dX6_makeDictionary_76 : decode cX6_makeDictionary 76 = .ok (.iconst 5, 1) := by decide +kernel
theorem dX6_makeDictionary_77 : decode cX6_makeDictionary 77 = .ok (.iaload, 1) := by decide +kernel
theorem dX6_makeDictionary_78 : decode cX6_makeDictionary 78 = .ok (.if_icmp .ne 24, 3) := by decide +kernel
theorem dX6_makeDictionary_81 : decode cX6_makeDictionary 81 = .ok (.aload_n 0, 1) := by decide +kernel
theorem dX6_makeDictionary_82 : decode cX6_makeDictionary 82 = .ok (.sipush 1000, 3) := by decide +kernel
theorem dX6_makeDictionary_85 : decode cX6_makeDictionary 85 = .ok (.iload 4, 2) := by decide +kernel
theorem dX6_makeDictionary_87 : decode cX6_makeDictionary 87 = .ok (.iadd, 1) := by decide +kernel
theorem dX6_makeDictionary_88 : decode cX6_makeDictionary 88 = .ok (.iload_n 3, 1) := by decide +kernel
theorem dX6_makeDictionary_89 : decode cX6_makeDictionary 89 = .ok (.invokevirtual 82, 3) := by decide +kernel
theorem dX6_makeDictionary_92 : decode cX6_makeDictionary 92 = .ok (.aload_n 0, 1) := by decide +kernel
theorem dX6_makeDictionary_93 : decode cX6_makeDictionary 93 = .ok (.getfield 17, 3) := by decide +kernel
theorem dX6_makeDictionary_96 : decode cX6_makeDictionary 96 = .ok (.iconst 5, 1) := by decide +kernel
theorem dX6_makeDictionary_97 : decode cX6_makeDictionary 97 = .ok (.dup2, 1) := by decide +kernel
theorem dX6_makeDictionary_98 : decode cX6_makeDictionary 98 = .ok (.iaload, 1) := by decide +kernel
theorem dX6_makeDictionary_99 : decode cX6_makeDictionary 99 = .ok (.iconst 1, 1) := by decide +kernel
theorem dX6_makeDictionary_100 : decode cX6_makeDictionary 100 = .ok (.iadd, 1) := by decide +kernel
theorem dX6_makeDictionary_101 : decode cX6_makeDictionary 101 = .ok (.iastore, 1) := by decide +kernel
theorem dX6_makeDictionary_102 : decode cX6_makeDictionary 102 = .ok (.aload_n 0, 1) := by decide +kernel
theorem dX6_makeDictionary_103 : decode cX6_makeDictionary 103 = .ok (.getfield 48, 3) := by decide +kernel
theorem dX6_makeDictionary_106 : decode cX6_makeDictionary 106 = .ok (.iload_n 2, 1) := by decide +kernel
theorem dX6_makeDictionary_107 : decode cX6_makeDictionary 107 = .ok (.iload 4, 2) := by decide +kernel
theorem dX6_makeDictionary_109 : decode cX6_makeDictionary 109 = .ok (.iastore, 1) := by decide +kernel
theorem dX6_makeDictionary_110 : decode cX6_makeDictionary 110 = .ok (.iinc 2 1, 3) := by decide +kernel
theorem dX6_makeDictionary_113 : decode cX6_makeDictionary 113 = .ok (.goto (-104), 3) := by decide +kernel
theorem dX6_makeDictionary_116 : decode cX6_makeDictionary 116 = .ok (.return_, 1) := by decide +kernel
theorem dX6_headed_0 : decode cX6_headed 0 = .ok (.aload_n 0, 1) := by decide +kernel
theorem dX6_headed_1 : decode cX6_headed 1 = .ok (.getfield 95, 3) := by decide +kernel
theorem dX6_headed_4 : decode cX6_headed 4 = .ok (.iload_n 1, 1) := by decide +kernel
theorem dX6_headed_5 : decode cX6_headed 5 = .ok (.isub, 1) := by decide +kernel
theorem dX6_headed_6 : decode cX6_headed 6 = .ok (.istore 5, 2) := by decide +kernel
theorem dX6_headed_8 : decode cX6_headed 8 = .ok (.iconst 0, 1) := by decide +kernel
theorem dX6_headed_9 : decode cX6_headed 9 = .ok (.istore 6, 2) := by decide +kernel
theorem dX6_headed_11 : decode cX6_headed 11 = .ok (.iload 6, 2) := by decide +kernel
theorem dX6_headed_13 : decode cX6_headed 13 = .ok (.iload 5, 2) := by decide +kernel
theorem dX6_headed_15 : decode cX6_headed 15 = .ok (.if_icmp .ge 25, 3) := by decide +kernel
theorem dX6_headed_18 : decode cX6_headed 18 = .ok (.aload_n 0, 1) := by decide +kernel
theorem dX6_headed_19 : decode cX6_headed 19 = .ok (.getfield 51, 3) := by decide +kernel
theorem dX6_headed_22 : decode cX6_headed 22 = .ok (.iload 6, 2) := by decide +kernel
theorem dX6_headed_24 : decode cX6_headed 24 = .ok (.aload_n 0, 1) := by decide +kernel
theorem dX6_headed_25 : decode cX6_headed 25 = .ok (.getfield 39, 3) := by decide +kernel
theorem dX6_headed_28 : decode cX6_headed 28 = .ok (.iload_n 1, 1) := by decide +kernel
theorem dX6_headed_29 : decode cX6_headed 29 = .ok (.iload 6, 2) := by decide +kernel
theorem dX6_headed_31 : decode cX6_headed 31 = .ok (.iadd, 1) := by decide +kernel
theorem dX6_headed_32 : decode cX6_headed 32 = .ok (.baload, 1) := by decide +kernel
theorem dX6_headed_33 : decode cX6_headed 33 = .ok (.bastore, 1) := by decide +kernel
theorem dX6_headed_34 : decode cX6_headed 34 = .ok (.iinc 6 1, 3) := by decide +kernel
theorem dX6_headed_37 : decode cX6_headed 37 = .ok (.goto (-26), 3) := by decide +kernel
theorem dX6_headed_40 : decode cX6_headed 40 = .ok (.aload_n 0, 1) := by decide +kernel
theorem dX6_headed_41 : decode cX6_headed 41 = .ok (.iload_n 1, 1) := by decide +kernel
theorem dX6_headed_42 : decode cX6_headed 42 = .ok (.putfield 95, 3) := by decide +kernel
theorem dX6_headed_45 : decode cX6_headed 45 = .ok (.aload_n 0, 1) := by decide +kernel
theorem dX6_headed_46 : decode cX6_headed 46 = .ok (.iload_n 2, 1) := by decide +kernel
theorem dX6_headed_47 : decode cX6_headed 47 = .ok (.iload 5, 2) := by decide +kernel
theorem dX6_headed_49 : decode cX6_headed 49 = .ok (.iload_n 3, 1) := by decide +kernel
theorem dX6_headed_50 : decode cX6_headed 50 = .ok (.iload 4, 2) := by decide +kernel
theorem dX6_headed_52 : decode cX6_headed 52 = .ok (.invokevirtual 141, 3) := by decide +kernel
theorem dX6_headed_55 : decode cX6_headed 55 = .ok (.iconst 0, 1) := by decide +kernel
theorem dX6_headed_56 : decode cX6_headed 56 = .ok (.istore 6, 2) := by decide +kernel
theorem dX6_headed_58 : decode cX6_headed 58 = .ok (.iload 6, 2) := by decide +kernel
theorem dX6_headed_60 : decode cX6_headed 60 = .ok (.iload 5, 2) := by decide +kernel
theorem dX6_headed_62 : decode cX6_headed 62 = .ok (.if_icmp .ge 20, 3) := by decide +kernel
theorem dX6_headed_65 : decode cX6_headed 65 = .ok (.aload_n 0, 1) := by decide +kernel
theorem dX6_headed_66 : decode cX6_headed 66 = .ok (.aload_n 0, 1) := by decide +kernel
theorem dX6_headed_67 : decode cX6_headed 67 = .ok (.getfield 51, 3) := by decide +kernel
theorem dX6_headed_70 : decode cX6_headed 70 = .ok (.iload 6, 2) := by decide +kernel
theorem dX6_headed_72 : decode cX6_headed 72 = .ok (.baload, 1) := by decide +kernel
theorem dX6_headed_73 : decode cX6_headed 73 = .ok (.invokevirtual 98, 3) := by decide +kernel
theorem dX6_headed_76 : decode cX6_headed 76 = .ok (.iinc 6 1, 3) := by decide +kernel
theorem dX6_headed_79 : decode cX6_headed 79 = .ok (.goto (-21), 3) := by decide +kernel
theorem dX6_headed_82 : decode cX6_headed 82 = .ok (.return_, 1) := by decide +kernel
theorem dX6_sized_0 : decode cX6_sized 0 = .ok (.aload_n 0, 1) := by decide +kernel
theorem dX6_sized_1 : decode cX6_sized 1 = .ok (.getfield 95, 3) := by decide +kernel
theorem dX6_sized_4 : decode cX6_sized 4 = .ok (.iload_n 1, 1) := by decide +kernel
theorem dX6_sized_5 : decode cX6_sized 5 = .ok (.isub, 1) := by decide +kernel
theorem dX6_sized_6 : decode cX6_sized 6 = .ok (.istore_n 2, 1) := by decide +kernel
theorem dX6_sized_7 : decode cX6_sized 7 = .ok (.iconst 0, 1) := by decide +kernel
theorem dX6_sized_8 : decode cX6_sized 8 = .ok (.istore_n 3, 1) := by decide +kernel
theorem dX6_sized_9 : decode cX6_sized 9 = .ok (.iload_n 3, 1) := by decide +kernel
theorem dX6_sized_10 : decode cX6_sized 10 = .ok (.iload_n 2, 1) := by decide +kernel
theorem dX6_sized_11 : decode cX6_sized 11 = .ok (.if_icmp .ge 23, 3) := by decide +kernel
theorem dX6_sized_14 : decode cX6_sized 14 = .ok (.aload_n 0, 1) := by decide +kernel
theorem dX6_sized_15 : decode cX6_sized 15 = .ok (.getfield 51, 3) := by decide +kernel
theorem dX6_sized_18 : decode cX6_sized 18 = .ok (.iload_n 3, 1) := by decide +kernel
theorem dX6_sized_19 : decode cX6_sized 19 = .ok (.aload_n 0, 1) := by decide +kernel
theorem dX6_sized_20 : decode cX6_sized 20 = .ok (.getfield 39, 3) := by decide +kernel
theorem dX6_sized_23 : decode cX6_sized 23 = .ok (.iload_n 1, 1) := by decide +kernel
theorem dX6_sized_24 : decode cX6_sized 24 = .ok (.iload_n 3, 1) := by decide +kernel
theorem dX6_sized_25 : decode cX6_sized 25 = .ok (.iadd, 1) := by decide +kernel
theorem dX6_sized_26 : decode cX6_sized 26 = .ok (.baload, 1) := by decide +kernel
theorem dX6_sized_27 : decode cX6_sized 27 = .ok (.bastore, 1) := by decide +kernel
theorem dX6_sized_28 : decode cX6_sized 28 = .ok (.iinc 3 1, 3) := by decide +kernel
theorem dX6_sized_31 : decode cX6_sized 31 = .ok (.goto (-22), 3) := by decide +kernel
theorem dX6_sized_34 : decode cX6_sized 34 = .ok (.aload_n 0, 1) := by decide +kernel
theorem dX6_sized_35 : decode cX6_sized 35 = .ok (.iload_n 1, 1) := by decide +kernel
theorem dX6_sized_36 : decode cX6_sized 36 = .ok (.putfield 95, 3) := by decide +kernel
theorem dX6_sized_39 : decode cX6_sized 39 = .ok (.aload_n 0, 1) := by decide +kernel
theorem dX6_sized_40 : decode cX6_sized 40 = .ok (.iload_n 2, 1) := by decide +kernel
theorem dX6_sized_41 : decode cX6_sized 41 = .ok (.i2l, 1) := by decide +kernel
theorem dX6_sized_42 : decode cX6_sized 42 = .ok (.iconst 4, 1) := by decide +kernel
theorem dX6_sized_43 : decode cX6_sized 43 = .ok (.invokevirtual 116, 3) := by decide +kernel
theorem dX6_sized_46 : decode cX6_sized 46 = .ok (.iconst 0, 1) := by decide +kernel
theorem dX6_sized_47 : decode cX6_sized 47 = .ok (.istore_n 3, 1) := by decide +kernel
theorem dX6_sized_48 : decode cX6_sized 48 = .ok (.iload_n 3, 1) := by decide +kernel
theorem dX6_sized_49 : decode cX6_sized 49 = .ok (.iload_n 2, 1) := by decide +kernel
theorem dX6_sized_50 : decode cX6_sized 50 = .ok (.if_icmp .ge 19, 3) := by decide +kernel
theorem dX6_sized_53 : decode cX6_sized 53 = .ok (.aload_n 0, 1) := by decide +kernel
theorem dX6_sized_54 : decode cX6_sized 54 = .ok (.aload_n 0, 1) := by decide +kernel
theorem dX6_sized_55 : decode cX6_sized 55 = .ok (.getfield 51, 3) := by decide +kernel
theorem dX6_sized_58 : decode cX6_sized 58 = .ok (.iload_n 3, 1) := by decide +kernel
theorem dX6_sized_59 : decode cX6_sized 59 = .ok (.baload, 1) := by decide +kernel
theorem dX6_sized_60 : decode cX6_sized 60 = .ok (.invokevirtual 98, 3) := by decide +kernel
theorem dX6_sized_63 : decode cX6_sized 63 = .ok (.iinc 3 1, 3) := by decide +kernel
theorem dX6_sized_66 : decode cX6_sized 66 = .ok (.goto (-18), 3) := by decide +kernel
theorem dX6_sized_69 : decode cX6_sized 69 = .ok (.return_, 1) := by decide +kernel
theorem dX6_page_0 : decode cX6_page 0 = .ok (.aload_n 0, 1) := by decide +kernel
theorem dX6_page_1 : decode cX6_page 1 = .ok (.getfield 95, 3) := by decide +kernel
theorem dX6_page_4 : decode cX6_page 4 = .ok (.istore 5, 2) := by decide +kernel
theorem dX6_page_6 : decode cX6_page 6 = .ok (.aload_n 0, 1) := by decide +kernel
theorem dX6_page_7 : decode cX6_page 7 = .ok (.getfield 13, 3) := by decide +kernel
theorem dX6_page_10 : decode cX6_page 10 = .ok (.iload_n 1, 1) := by decide +kernel
theorem dX6_page_11 : decode cX6_page 11 = .ok (.baload, 1) := by decide +kernel
theorem dX6_page_12 : decode cX6_page 12 = .ok (.ifCond .eq 64, 3) := by decide +kernel
theorem dX6_page_15 : decode cX6_page 15 = .ok (.iload_n 3, 1) := by decide +kernel
theorem dX6_page_16 : decode cX6_page 16 = .ok (.istore 6, 2) := by decide +kernel
theorem dX6_page_18 : decode cX6_page 18 = .ok (.iload 6, 2) := by decide +kernel
theorem dX6_page_20 : decode cX6_page 20 = .ok (.iload 4, 2) := by decide +kernel
theorem dX6_page_22 : decode cX6_page 22 = .ok (.if_icmp .ge 39, 3) := by decide +kernel
theorem dX6_page_25 : decode cX6_page 25 = .ok (.aload_n 0, 1) := by decide +kernel
theorem dX6_page_26 : decode cX6_page 26 = .ok (.getfield 42, 3) := by decide +kernel
theorem dX6_page_29 : decode cX6_page 29 = .ok (.iload 6, 2) := by decide +kernel
theorem dX6_page_31 : decode cX6_page 31 = .ok (.iload_n 3, 1) := by decide +kernel
theorem dX6_page_32 : decode cX6_page 32 = .ok (.isub, 1) := by decide +kernel
theorem dX6_page_33 : decode cX6_page 33 = .ok (.aload_n 0, 1) := by decide +kernel
theorem dX6_page_34 : decode cX6_page 34 = .ok (.getfield 20, 3) := by decide +kernel
theorem dX6_page_37 : decode cX6_page 37 = .ok (.sipush 200, 3) := by decide +kernel
theorem dX6_page_40 : decode cX6_page 40 = .ok (.iload_n 1, 1) := by decide +kernel
theorem dX6_page_41 : decode cX6_page 41 = .ok (.imul, 1) := by decide +kernel
theorem dX6_page_42 : decode cX6_page 42 = .ok (.iload 6, 2) := by decide +kernel
theorem dX6_page_44 : decode cX6_page 44 = .ok (.iadd, 1) := by decide +kernel
theorem dX6_page_45 : decode cX6_page 45 = .ok (.baload, 1) := by decide +kernel
theorem dX6_page_46 : decode cX6_page 46 = .ok (.ifCond .eq 7, 3) := by decide +kernel
theorem dX6_page_49 : decode cX6_page 49 = .ok (.lconst 1, 1) := by decide +kernel
theorem dX6_page_50 : decode cX6_page 50 = .ok (.goto 4, 3) := by decide +kernel
theorem dX6_page_53 : decode cX6_page 53 = .ok (.lconst 0, 1) := by decide +kernel
theorem dX6_page_54 : decode cX6_page 54 = .ok (.lastore, 1) := by decide +kernel
theorem dX6_page_55 : decode cX6_page 55 = .ok (.iinc 6 1, 3) := by decide +kernel
theorem dX6_page_58 : decode cX6_page 58 = .ok (.goto (-40), 3) := by decide +kernel
theorem dX6_page_61 : decode cX6_page 61 = .ok (.aload_n 0, 1) := by decide +kernel
theorem dX6_page_62 : decode cX6_page 62 = .ok (.iload 4, 2) := by decide +kernel
theorem dX6_page_64 : decode cX6_page 64 = .ok (.iload_n 3, 1) := by decide +kernel
theorem dX6_page_65 : decode cX6_page 65 = .ok (.isub, 1) := by decide +kernel
theorem dX6_page_66 : decode cX6_page 66 = .ok (.iconst 1, 1) := by decide +kernel
theorem dX6_page_67 : decode cX6_page 67 = .ok (.invokevirtual 144, 3) := by decide +kernel
theorem dX6_page_70 : decode cX6_page 70 = .ok (.aload_n 0, 1) := by decide +kernel
theorem dX6_page_71 : decode cX6_page 71 = .ok (.iload 5, 2) := by decide +kernel
theorem dX6_page_73 : decode cX6_page 73 = .ok (.invokevirtual 147, 3) := by decide +kernel
theorem dX6_page_76 : decode cX6_page 76 = .ok (.iconst 0, 1) := by decide +kernel
theorem dX6_page_77 : decode cX6_page 77 = .ok (.istore 6, 2) := by decide +kernel
theorem dX6_page_79 : decode cX6_page 79 = .ok (.iload_n 2, 1) := by decide +kernel
theorem dX6_page_80 : decode cX6_page 80 = .ok (.ifCond .ne 7, 3) := by decide +kernel
theorem dX6_page_83 : decode cX6_page 83 = .ok (.iconst 0, 1) := by decide +kernel
theorem dX6_page_84 : decode cX6_page 84 = .ok (.goto 43, 3) := by decide +kernel
theorem dX6_page_87 : decode cX6_page 87 = .ok (.iload_n 2, 1) := by decide +kernel
theorem dX6_page_88 : decode cX6_page 88 = .ok (.iconst 1, 1) := by decide +kernel
theorem dX6_page_89 : decode cX6_page 89 = .ok (.if_icmp .ne 8, 3) := by decide +kernel
theorem dX6_page_92 : decode cX6_page 92 = .ok (.bipush 8, 2) := by decide +kernel
theorem dX6_page_94 : decode cX6_page 94 = .ok (.goto 33, 3) := by decide +kernel
theorem dX6_page_97 : decode cX6_page 97 = .ok (.aload_n 0, 1) := by decide +kernel
theorem dX6_page_98 : decode cX6_page 98 = .ok (.getfield 7, 3) := by decide +kernel
theorem dX6_page_101 : decode cX6_page 101 = .ok (.iload_n 1, 1) := by decide +kernel
theorem dX6_page_102 : decode cX6_page 102 = .ok (.iaload, 1) := by decide +kernel
theorem dX6_page_103 : decode cX6_page 103 = .ok (.iconst 2, 1) := by decide +kernel
theorem dX6_page_104 : decode cX6_page 104 = .ok (.if_icmp .ne 8, 3) := by decide +kernel
theorem dX6_page_107 : decode cX6_page 107 = .ok (.bipush 6, 2) := by decide +kernel
theorem dX6_page_109 : decode cX6_page 109 = .ok (.goto 18, 3) := by decide +kernel
theorem dX6_page_112 : decode cX6_page 112 = .ok (.aload_n 0, 1) := by decide +kernel
theorem dX6_page_113 : decode cX6_page 113 = .ok (.getfield 7, 3) := by decide +kernel
theorem dX6_page_116 : decode cX6_page 116 = .ok (.iload_n 1, 1) := by decide +kernel
theorem dX6_page_117 : decode cX6_page 117 = .ok (.iaload, 1) := by decide +kernel
theorem dX6_page_118 : decode cX6_page 118 = .ok (.iconst 3, 1) := by decide +kernel
theorem dX6_page_119 : decode cX6_page 119 = .ok (.if_icmp .ne 7, 3) := by decide +kernel
theorem dX6_page_122 : decode cX6_page 122 = .ok (.iconst 3, 1) := by decide +kernel
theorem dX6_page_123 : decode cX6_page 123 = .ok (.goto 4, 3) := by decide +kernel
theorem dX6_page_126 : decode cX6_page 126 = .ok (.iconst 5, 1) := by decide +kernel
theorem dX6_page_127 : decode cX6_page 127 = .ok (.istore 7, 2) := by decide +kernel
theorem dX6_page_129 : decode cX6_page 129 = .ok (.iload_n 3, 1) := by decide +kernel
theorem dX6_page_130 : decode cX6_page 130 = .ok (.istore 8, 2) := by decide +kernel
theorem dX6_page_132 : decode cX6_page 132 = .ok (.iload 8, 2) := by decide +kernel
theorem dX6_page_134 : decode cX6_page 134 = .ok (.iload 4, 2) := by decide +kernel
theorem dX6_page_136 : decode cX6_page 136 = .ok (.if_icmp .ge 66, 3) := by decide +kernel
theorem dX6_page_139 : decode cX6_page 139 = .ok (.aload_n 0, 1) := by decide +kernel
theorem dX6_page_140 : decode cX6_page 140 = .ok (.getfield 20, 3) := by decide +kernel
theorem dX6_page_143 : decode cX6_page 143 = .ok (.sipush 200, 3) := by decide +kernel
theorem dX6_page_146 : decode cX6_page 146 = .ok (.iload_n 1, 1) := by decide +kernel
theorem dX6_page_147 : decode cX6_page 147 = .ok (.imul, 1) := by decide +kernel
theorem dX6_page_148 : decode cX6_page 148 = .ok (.iload 8, 2) := by decide +kernel
theorem dX6_page_150 : decode cX6_page 150 = .ok (.iadd, 1) := by decide +kernel
theorem dX6_page_151 : decode cX6_page 151 = .ok (.baload, 1) := by decide +kernel
theorem dX6_page_152 : decode cX6_page 152 = .ok (.ifCond .eq 44, 3) := by decide +kernel
theorem dX6_page_155 : decode cX6_page 155 = .ok (.aload_n 0, 1) := by decide +kernel
theorem dX6_page_156 : decode cX6_page 156 = .ok (.getfield 42, 3) := by decide +kernel
theorem dX6_page_159 : decode cX6_page 159 = .ok (.iload 6, 2) := by decide +kernel
theorem dX6_page_161 : decode cX6_page 161 = .ok (.iload 7, 2) := by decide +kernel
theorem dX6_page_163 : decode cX6_page 163 = .ok (.bipush 8, 2) := by decide +kernel
theorem dX6_page_165 : decode cX6_page 165 = .ok (.if_icmp .ne 14, 3) := by decide +kernel
theorem dX6_page_168 : decode cX6_page 168 = .ok (.aload_n 0, 1) := by decide +kernel
theorem dX6_page_169 : decode cX6_page 169 = .ok (.getfield 48, 3) := by decide +kernel
theorem dX6_page_172 : decode cX6_page 172 = .ok (.iload 8, 2) := by decide +kernel
theorem dX6_page_174 : decode cX6_page 174 = .ok (.iaload, 1) := by decide +kernel
theorem dX6_page_175 : decode cX6_page 175 = .ok (.i2l, 1) := by decide +kernel
theorem dX6_page_176 : decode cX6_page 176 = .ok (.goto 16, 3) := by decide +kernel
theorem dX6_page_179 : decode cX6_page 179 = .ok (.aload_n 0, 1) := by decide +kernel
theorem dX6_page_180 : decode cX6_page 180 = .ok (.getfield 23, 3) := by decide +kernel
theorem dX6_page_183 : decode cX6_page 183 = .ok (.sipush 200, 3) := by decide +kernel
theorem dX6_page_186 : decode cX6_page 186 = .ok (.iload_n 1, 1) := by decide +kernel
theorem dX6_page_187 : decode cX6_page 187 = .ok (.imul, 1) := by decide +kernel
theorem dX6_page_188 : decode cX6_page 188 = .ok (.iload 8, 2) := by decide +kernel
theorem dX6_page_190 : decode cX6_page 190 = .ok (.iadd, 1) := by decide +kernel
theorem dX6_page_191 : decode cX6_page 191 = .ok (.laload, 1) := by decide +kernel
theorem dX6_page_192 : decode cX6_page 192 = .ok (.lastore, 1) := by decide +kernel
theorem dX6_page_193 : decode cX6_page 193 = .ok (.iinc 6 1, 3) := by decide +kernel
theorem dX6_page_196 : decode cX6_page 196 = .ok (.iinc 8 1, 3) := by decide +kernel
theorem dX6_page_199 : decode cX6_page 199 = .ok (.goto (-67), 3) := by decide +kernel
theorem dX6_page_202 : decode cX6_page 202 = .ok (.aload_n 0, 1) := by decide +kernel
theorem dX6_page_203 : decode cX6_page 203 = .ok (.getfield 95, 3) := by decide +kernel
theorem dX6_page_206 : decode cX6_page 206 = .ok (.istore 8, 2) := by decide +kernel
theorem dX6_page_208 : decode cX6_page 208 = .ok (.iload 7, 2) := by decide +kernel
theorem dX6_page_210 : decode cX6_page 210 = .ok (.bipush 8, 2) := by decide +kernel
theorem dX6_page_212 : decode cX6_page 212 = .ok (.if_icmp .ne 48, 3) := by decide +kernel
theorem dX6_page_215 : decode cX6_page 215 = .ok (.aload_n 0, 1) := by decide +kernel
theorem dX6_page_216 : decode cX6_page 216 = .ok (.getfield 17, 3) := by decide +kernel
theorem dX6_page_219 : decode cX6_page 219 = .ok (.iconst 5, 1) := by decide +kernel
theorem dX6_page_220 : decode cX6_page 220 = .ok (.iaload, 1) := by decide +kernel
theorem dX6_page_221 : decode cX6_page 221 = .ok (.iconst 2, 1) := by decide +kernel
theorem dX6_page_222 : decode cX6_page 222 = .ok (.if_icmp .ge 7, 3) := by decide +kernel
theorem dX6_page_225 : decode cX6_page 225 = .ok (.iconst 0, 1) := by decide +kernel
theorem dX6_page_226 : decode cX6_page 226 = .ok (.goto 15, 3) := by decide +kernel
theorem dX6_page_229 : decode cX6_page 229 = .ok (.aload_n 0, 1) := by decide +kernel
theorem dX6_page_230 : decode cX6_page 230 = .ok (.getfield 17, 3) := by decide +kernel
theorem dX6_page_233 : decode cX6_page 233 = .ok (.iconst 5, 1) := by decide +kernel
theorem dX6_page_234 : decode cX6_page 234 = .ok (.iaload, 1) := by decide +kernel
theorem dX6_page_235 : decode cX6_page 235 = .ok (.iconst 1, 1) := by decide +kernel
theorem dX6_page_236 : decode cX6_page 236 = .ok (.isub, 1) := by decide +kernel
theorem dX6_page_237 : decode cX6_page 237 = .ok (.i2l, 1) := by decide +kernel
theorem dX6_page_238 : decode cX6_page 238 = .ok (.invokestatic 134, 3) := by decide +kernel
theorem dX6_page_241 : decode cX6_page 241 = .ok (.istore 9, 2) := by decide +kernel
theorem dX6_page_243 : decode cX6_page 243 = .ok (.aload_n 0, 1) := by decide +kernel
theorem dX6_page_244 : decode cX6_page 244 = .ok (.iload 9, 2) := by decide +kernel
theorem dX6_page_246 : decode cX6_page 246 = .ok (.invokevirtual 98, 3) := by decide +kernel
theorem dX6_page_249 : decode cX6_page 249 = .ok (.aload_n 0, 1) := by decide +kernel
theorem dX6_page_250 : decode cX6_page 250 = .ok (.iload 6, 2) := by decide +kernel
theorem dX6_page_252 : decode cX6_page 252 = .ok (.iload 9, 2) := by decide +kernel
theorem dX6_page_254 : decode cX6_page 254 = .ok (.invokevirtual 144, 3) := by decide +kernel
theorem dX6_page_257 : decode cX6_page 257 = .ok (.goto 80, 3) := by decide +kernel
theorem dX6_page_260 : decode cX6_page 260 = .ok (.iload 7, 2) := by decide +kernel
theorem dX6_page_262 : decode cX6_page 262 = .ok (.iconst 3, 1) := by decide +kernel
theorem dX6_page_263 : decode cX6_page 263 = .ok (.if_icmp .ne 19, 3) := by decide +kernel
theorem dX6_page_266 : decode cX6_page 266 = .ok (.aload_n 0, 1) := by decide +kernel
theorem dX6_page_267 : decode cX6_page 267 = .ok (.iload 6, 2) := by decide +kernel
theorem dX6_page_269 : decode cX6_page 269 = .ok (.iconst 1, 1) := by decide +kernel
theorem dX6_page_270 : decode cX6_page 270 = .ok (.invokevirtual 144, 3) := by decide +kernel
theorem dX6_page_273 : decode cX6_page 273 = .ok (.aload_n 0, 1) := by decide +kernel
theorem dX6_page_274 : decode cX6_page 274 = .ok (.iload 8, 2) := by decide +kernel
theorem dX6_page_276 : decode cX6_page 276 = .ok (.invokevirtual 147, 3) := by decide +kernel
theorem dX6_page_279 : decode cX6_page 279 = .ok (.goto 58, 3) := by decide +kernel
theorem dX6_page_282 : decode cX6_page 282 = .ok (.iload 7, 2) := by decide +kernel
theorem dX6_page_284 : decode cX6_page 284 = .ok (.ifCond .le 33, 3) := by decide +kernel
theorem dX6_page_287 : decode cX6_page 287 = .ok (.aload_n 0, 1) := by decide +kernel
theorem dX6_page_288 : decode cX6_page 288 = .ok (.iload 6, 2) := by decide +kernel
theorem dX6_page_290 : decode cX6_page 290 = .ok (.iload 7, 2) := by decide +kernel
theorem dX6_page_292 : decode cX6_page 292 = .ok (.bipush 6, 2) := by decide +kernel
theorem dX6_page_294 : decode cX6_page 294 = .ok (.if_icmp .eq 12, 3) := by decide +kernel
theorem dX6_page_297 : decode cX6_page 297 = .ok (.aload_n 0, 1) := by decide +kernel
theorem dX6_page_298 : decode cX6_page 298 = .ok (.getfield 7, 3) := by decide +kernel
theorem dX6_page_301 : decode cX6_page 301 = .ok (.iload_n 1, 1) := by decide +kernel
theorem dX6_page_302 : decode cX6_page 302 = .ok (.iaload, 1) := by decide +kernel
theorem dX6_page_303 : decode cX6_page 303 = .ok (.ifCond .ne 7, 3) := by decide +kernel
theorem dX6_page_306 : decode cX6_page 306 = .ok (.iconst 1, 1) := by decide +kernel
theorem dX6_page_307 : decode cX6_page 307 = .ok (.goto 4, 3) := by decide +kernel
theorem dX6_page_310 : decode cX6_page 310 = .ok (.iconst 0, 1) := by decide +kernel
theorem dX6_page_311 : decode cX6_page 311 = .ok (.invokevirtual 150, 3) := by decide +kernel
theorem dX6_page_314 : decode cX6_page 314 = .ok (.goto 23, 3) := by decide +kernel
theorem dX6_page_317 : decode cX6_page 317 = .ok (.aload_n 0, 1) := by decide +kernel
theorem dX6_page_318 : decode cX6_page 318 = .ok (.getfield 7, 3) := by decide +kernel
theorem dX6_page_321 : decode cX6_page 321 = .ok (.iload_n 1, 1) := by decide +kernel
theorem dX6_page_322 : decode cX6_page 322 = .ok (.iaload, 1) := by decide +kernel
theorem dX6_page_323 : decode cX6_page 323 = .ok (.iconst 3, 1) := by decide +kernel
theorem dX6_page_324 : decode cX6_page 324 = .ok (.if_icmp .ne 13, 3) := by decide +kernel
theorem dX6_page_327 : decode cX6_page 327 = .ok (.aload_n 0, 1) := by decide +kernel
theorem dX6_page_328 : decode cX6_page 328 = .ok (.iconst 0, 1) := by decide +kernel
theorem dX6_page_329 : decode cX6_page 329 = .ok (.iload 6, 2) := by decide +kernel
theorem dX6_page_331 : decode cX6_page 331 = .ok (.iload 6, 2) := by decide +kernel
theorem dX6_page_333 : decode cX6_page 333 = .ok (.iconst 1, 1) := by decide +kernel
theorem dX6_page_334 : decode cX6_page 334 = .ok (.invokevirtual 120, 3) := by decide +kernel
theorem dX6_page_337 : decode cX6_page 337 = .ok (.iload_n 3, 1) := by decide +kernel
theorem dX6_page_338 : decode cX6_page 338 = .ok (.istore 9, 2) := by decide +kernel
theorem dX6_page_340 : decode cX6_page 340 = .ok (.iload 9, 2) := by decide +kernel
theorem dX6_page_342 : decode cX6_page 342 = .ok (.iload 4, 2) := by decide +kernel
theorem dX6_page_344 : decode cX6_page 344 = .ok (.if_icmp .ge 96, 3) := by decide +kernel
theorem dX6_page_347 : decode cX6_page 347 = .ok (.aload_n 0, 1) := by decide +kernel
theorem dX6_page_348 : decode cX6_page 348 = .ok (.getfield 20, 3) := by decide +kernel
theorem dX6_page_351 : decode cX6_page 351 = .ok (.sipush 200, 3) := by decide +kernel
theorem dX6_page_354 : decode cX6_page 354 = .ok (.iload_n 1, 1) := by decide +kernel
theorem dX6_page_355 : decode cX6_page 355 = .ok (.imul, 1) := by decide +kernel
theorem dX6_page_356 : decode cX6_page 356 = .ok (.iload 9, 2) := by decide +kernel
theorem dX6_page_358 : decode cX6_page 358 = .ok (.iadd, 1) := by decide +kernel
theorem dX6_page_359 : decode cX6_page 359 = .ok (.baload, 1) := by decide +kernel
theorem dX6_page_360 : decode cX6_page 360 = .ok (.ifCond .eq 25, 3) := by decide +kernel
theorem dX6_page_363 : decode cX6_page 363 = .ok (.iload 7, 2) := by decide +kernel
theorem dX6_page_365 : decode cX6_page 365 = .ok (.bipush 6, 2) := by decide +kernel
theorem dX6_page_367 : decode cX6_page 367 = .ok (.if_icmp .ne 18, 3) := by decide +kernel
theorem dX6_page_370 : decode cX6_page 370 = .ok (.aload_n 0, 1) := by decide +kernel
theorem dX6_page_371 : decode cX6_page 371 = .ok (.sipush 200, 3) := by decide +kernel
theorem dX6_page_374 : decode cX6_page 374 = .ok (.iload_n 1, 1) := by decide +kernel
theorem dX6_page_375 : decode cX6_page 375 = .ok (.imul, 1) := by decide +kernel
theorem dX6_page_376 : decode cX6_page 376 = .ok (.iload 9, 2) := by decide +kernel
theorem dX6_page_378 : decode cX6_page 378 = .ok (.iadd, 1) := by decide +kernel
theorem dX6_page_379 : decode cX6_page 379 = .ok (.invokevirtual 138, 3) := by decide +kernel
theorem dX6_page_382 : decode cX6_page 382 = .ok (.goto 52, 3) := by decide +kernel
theorem dX6_page_385 : decode cX6_page 385 = .ok (.aload_n 0, 1) := by decide +kernel
theorem dX6_page_386 : decode cX6_page 386 = .ok (.getfield 20, 3) := by decide +kernel
theorem dX6_page_389 : decode cX6_page 389 = .ok (.sipush 200, 3) := by decide +kernel
theorem dX6_page_392 : decode cX6_page 392 = .ok (.iload_n 1, 1) := by decide +kernel
theorem dX6_page_393 : decode cX6_page 393 = .ok (.imul, 1) := by decide +kernel
theorem dX6_page_394 : decode cX6_page 394 = .ok (.iload 9, 2) := by decide +kernel
theorem dX6_page_396 : decode cX6_page 396 = .ok (.iadd, 1) := by decide +kernel
theorem dX6_page_397 : decode cX6_page 397 = .ok (.baload, 1) := by decide +kernel
theorem dX6_page_398 : decode cX6_page 398 = .ok (.ifCond .eq 36, 3) := by decide +kernel
theorem dX6_page_401 : decode cX6_page 401 = .ok (.iload 7, 2) := by decide +kernel
theorem dX6_page_403 : decode cX6_page 403 = .ok (.ifCond .ne 31, 3) := by decide +kernel
theorem dX6_page_406 : decode cX6_page 406 = .ok (.aload_n 0, 1) := by decide +kernel
theorem dX6_page_407 : decode cX6_page 407 = .ok (.getfield 7, 3) := by decide +kernel
theorem dX6_page_410 : decode cX6_page 410 = .ok (.iload_n 1, 1) := by decide +kernel
theorem dX6_page_411 : decode cX6_page 411 = .ok (.iaload, 1) := by decide +kernel
theorem dX6_page_412 : decode cX6_page 412 = .ok (.iconst 3, 1) := by decide +kernel
theorem dX6_page_413 : decode cX6_page 413 = .ok (.if_icmp .eq 21, 3) := by decide +kernel
theorem dX6_page_416 : decode cX6_page 416 = .ok (.aload_n 0, 1) := by decide +kernel
theorem dX6_page_417 : decode cX6_page 417 = .ok (.sipush 200, 3) := by decide +kernel
theorem dX6_page_420 : decode cX6_page 420 = .ok (.iload_n 1, 1) := by decide +kernel
theorem dX6_page_421 : decode cX6_page 421 = .ok (.imul, 1) := by decide +kernel
theorem dX6_page_422 : decode cX6_page 422 = .ok (.iload 9, 2) := by decide +kernel
theorem dX6_page_424 : decode cX6_page 424 = .ok (.iadd, 1) := by decide +kernel
theorem dX6_page_425 : decode cX6_page 425 = .ok (.aload_n 0, 1) := by decide +kernel
theorem dX6_page_426 : decode cX6_page 426 = .ok (.getfield 7, 3) := by decide +kernel
theorem dX6_page_429 : decode cX6_page 429 = .ok (.iload_n 1, 1) := by decide +kernel
theorem dX6_page_430 : decode cX6_page 430 = .ok (.iaload, 1) := by decide +kernel
theorem dX6_page_431 : decode cX6_page 431 = .ok (.invokevirtual 154, 3) := by decide +kernel
theorem dX6_page_434 : decode cX6_page 434 = .ok (.iinc 9 1, 3) := by decide +kernel
theorem dX6_page_437 : decode cX6_page 437 = .ok (.goto (-97), 3) := by decide +kernel
theorem dX6_page_440 : decode cX6_page 440 = .ok (.aload_n 0, 1) := by decide +kernel
theorem dX6_page_441 : decode cX6_page 441 = .ok (.iload 5, 2) := by decide +kernel
theorem dX6_page_443 : decode cX6_page 443 = .ok (.iconst 0, 1) := by decide +kernel
theorem dX6_page_444 : decode cX6_page 444 = .ok (.iload 4, 2) := by decide +kernel
theorem dX6_page_446 : decode cX6_page 446 = .ok (.iload_n 3, 1) := by decide +kernel
theorem dX6_page_447 : decode cX6_page 447 = .ok (.isub, 1) := by decide +kernel
theorem dX6_page_448 : decode cX6_page 448 = .ok (.iload 7, 2) := by decide +kernel
theorem dX6_page_450 : decode cX6_page 450 = .ok (.invokevirtual 157, 3) := by decide +kernel
theorem dX6_page_453 : decode cX6_page 453 = .ok (.return_, 1) := by decide +kernel
theorem dX6_write_0 : decode cX6_write 0 = .ok (.iload_n 1, 1) := by decide +kernel
theorem dX6_write_1 : decode cX6_write 1 = .ok (.invokestatic 66, 3) := by decide +kernel
theorem dX6_write_4 : decode cX6_write 4 = .ok (.ifCond .eq 42, 3) := by decide +kernel
theorem dX6_write_7 : decode cX6_write 7 = .ok (.iload_n 2, 1) := by decide +kernel
theorem dX6_write_8 : decode cX6_write 8 = .ok (.i2l, 1) := by decide +kernel
theorem dX6_write_9 : decode cX6_write 9 = .ok (.lconst 0, 1) := by decide +kernel
theorem dX6_write_10 : decode cX6_write 10 = .ok (.ldc2_w 114, 3) := by decide +kernel
theorem dX6_write_13 : decode cX6_write 13 = .ok (.invokestatic 62, 3) := by decide +kernel
theorem dX6_write_16 : decode cX6_write 16 = .ok (.ifCond .eq 30, 3) := by decide +kernel
theorem dX6_write_19 : decode cX6_write 19 = .ok (.iload_n 2, 1) := by decide +kernel
theorem dX6_write_20 : decode cX6_write 20 = .ok (.iconst 1, 1) := by decide +kernel
theorem dX6_write_21 : decode cX6_write 21 = .ok (.if_icmp .ne 13, 3) := by decide +kernel
theorem dX6_write_24 : decode cX6_write 24 = .ok (.aload_n 0, 1) := by decide +kernel
theorem dX6_write_25 : decode cX6_write 25 = .ok (.getfield 7, 3) := by decide +kernel
theorem dX6_write_28 : decode cX6_write 28 = .ok (.iload_n 1, 1) := by decide +kernel
theorem dX6_write_29 : decode cX6_write 29 = .ok (.iaload, 1) := by decide +kernel
theorem dX6_write_30 : decode cX6_write 30 = .ok (.iconst 3, 1) := by decide +kernel
theorem dX6_write_31 : decode cX6_write 31 = .ok (.if_icmp .eq 15, 3) := by decide +kernel
theorem dX6_write_34 : decode cX6_write 34 = .ok (.iload_n 3, 1) := by decide +kernel
theorem dX6_write_35 : decode cX6_write 35 = .ok (.i2l, 1) := by decide +kernel
theorem dX6_write_36 : decode cX6_write 36 = .ok (.lconst 1, 1) := by decide +kernel
theorem dX6_write_37 : decode cX6_write 37 = .ok (.ldc2_w 80, 3) := by decide +kernel
theorem dX6_write_40 : decode cX6_write 40 = .ok (.invokestatic 62, 3) := by decide +kernel
theorem dX6_write_43 : decode cX6_write 43 = .ok (.ifCond .ne 5, 3) := by decide +kernel
theorem dX6_write_46 : decode cX6_write 46 = .ok (.iconst (-1), 1) := by decide +kernel
theorem dX6_write_47 : decode cX6_write 47 = .ok (.ireturn, 1) := by decide +kernel
theorem dX6_write_48 : decode cX6_write 48 = .ok (.aload_n 0, 1) := by decide +kernel
theorem dX6_write_49 : decode cX6_write 49 = .ok (.iconst 0, 1) := by decide +kernel
theorem dX6_write_50 : decode cX6_write 50 = .ok (.putfield 95, 3) := by decide +kernel
theorem dX6_write_53 : decode cX6_write 53 = .ok (.iload_n 2, 1) := by decide +kernel
theorem dX6_write_54 : decode cX6_write 54 = .ok (.iconst 1, 1) := by decide +kernel
theorem dX6_write_55 : decode cX6_write 55 = .ok (.if_icmp .ne 66, 3) := by decide +kernel
theorem dX6_write_58 : decode cX6_write 58 = .ok (.aload_n 0, 1) := by decide +kernel
theorem dX6_write_59 : decode cX6_write 59 = .ok (.getfield 17, 3) := by decide +kernel
theorem dX6_write_62 : decode cX6_write 62 = .ok (.iload_n 1, 1) := by decide +kernel
theorem dX6_write_63 : decode cX6_write 63 = .ok (.iaload, 1) := by decide +kernel
theorem dX6_write_64 : decode cX6_write 64 = .ok (.ifCond .le 57, 3) := by decide +kernel
theorem dX6_write_67 : decode cX6_write 67 = .ok (.aload_n 0, 1) := by decide +kernel
theorem dX6_write_68 : decode cX6_write 68 = .ok (.iload_n 1, 1) := by decide +kernel
theorem dX6_write_69 : decode cX6_write 69 = .ok (.invokevirtual 160, 3) := by decide +kernel
theorem dX6_write_72 : decode cX6_write 72 = .ok (.iconst 0, 1) := by decide +kernel
theorem dX6_write_73 : decode cX6_write 73 = .ok (.istore 5, 2) := by decide +kernel
theorem dX6_write_75 : decode cX6_write 75 = .ok (.iload 5, 2) := by decide +kernel
theorem dX6_write_77 : decode cX6_write 77 = .ok (.aload_n 0, 1) := by decide +kernel
theorem dX6_write_78 : decode cX6_write 78 = .ok (.getfield 17, 3) := by decide +kernel
theorem dX6_write_81 : decode cX6_write 81 = .ok (.iconst 5, 1) := by decide +kernel
theorem dX6_write_82 : decode cX6_write 82 = .ok (.iaload, 1) := by decide +kernel
theorem dX6_write_83 : decode cX6_write 83 = .ok (.if_icmp .ge 25, 3) := by decide +kernel
theorem dX6_write_86 : decode cX6_write 86 = .ok (.aload_n 0, 1) := by decide +kernel
theorem dX6_write_87 : decode cX6_write 87 = .ok (.sipush 1000, 3) := by decide +kernel
theorem dX6_write_90 : decode cX6_write 90 = .ok (.iload 5, 2) := by decide +kernel
theorem dX6_write_92 : decode cX6_write 92 = .ok (.iadd, 1) := by decide +kernel
theorem dX6_write_93 : decode cX6_write 93 = .ok (.aload_n 0, 1) := by decide +kernel
theorem dX6_write_94 : decode cX6_write 94 = .ok (.getfield 7, 3) := by decide +kernel
theorem dX6_write_97 : decode cX6_write 97 = .ok (.iload_n 1, 1) := by decide +kernel
theorem dX6_write_98 : decode cX6_write 98 = .ok (.iaload, 1) := by decide +kernel
theorem dX6_write_99 : decode cX6_write 99 = .ok (.invokevirtual 154, 3) := by decide +kernel
theorem dX6_write_102 : decode cX6_write 102 = .ok (.iinc 5 1, 3) := by decide +kernel
theorem dX6_write_105 : decode cX6_write 105 = .ok (.goto (-30), 3) := by decide +kernel
theorem dX6_write_108 : decode cX6_write 108 = .ok (.aload_n 0, 1) := by decide +kernel
theorem dX6_write_109 : decode cX6_write 109 = .ok (.iconst 0, 1) := by decide +kernel
theorem dX6_write_110 : decode cX6_write 110 = .ok (.iconst 2, 1) := by decide +kernel
theorem dX6_write_111 : decode cX6_write 111 = .ok (.aload_n 0, 1) := by decide +kernel
theorem dX6_write_112 : decode cX6_write 112 = .ok (.getfield 17, 3) := by decide +kernel
theorem dX6_write_115 : decode cX6_write 115 = .ok (.iconst 5, 1) := by decide +kernel
theorem dX6_write_116 : decode cX6_write 116 = .ok (.iaload, 1) := by decide +kernel
theorem dX6_write_117 : decode cX6_write 117 = .ok (.iconst 0, 1) := by decide +kernel
theorem dX6_write_118 : decode cX6_write 118 = .ok (.invokevirtual 157, 3) := by decide +kernel
theorem dX6_write_121 : decode cX6_write 121 = .ok (.iconst 0, 1) := by decide +kernel
theorem dX6_write_122 : decode cX6_write 122 = .ok (.istore 5, 2) := by decide +kernel
theorem dX6_write_124 : decode cX6_write 124 = .ok (.iload 5, 2) := by decide +kernel
theorem dX6_write_126 : decode cX6_write 126 = .ok (.aload_n 0, 1) := by decide +kernel
theorem dX6_write_127 : decode cX6_write 127 = .ok (.getfield 17, 3) := by decide +kernel
theorem dX6_write_130 : decode cX6_write 130 = .ok (.iload_n 1, 1) := by decide +kernel
theorem dX6_write_131 : decode cX6_write 131 = .ok (.iaload, 1) := by decide +kernel
theorem dX6_write_132 : decode cX6_write 132 = .ok (.if_icmp .ge 46, 3) := by decide +kernel
theorem dX6_write_135 : decode cX6_write 135 = .ok (.aload_n 0, 1) := by decide +kernel
theorem dX6_write_136 : decode cX6_write 136 = .ok (.iload_n 1, 1) := by decide +kernel
theorem dX6_write_137 : decode cX6_write 137 = .ok (.iload_n 2, 1) := by decide +kernel
theorem dX6_write_138 : decode cX6_write 138 = .ok (.iload 5, 2) := by decide +kernel
theorem dX6_write_140 : decode cX6_write 140 = .ok (.iload 5, 2) := by decide +kernel
theorem dX6_write_142 : decode cX6_write 142 = .ok (.iload_n 3, 1) := by decide +kernel
theorem dX6_write_143 : decode cX6_write 143 = .ok (.iadd, 1) := by decide +kernel
theorem dX6_write_144 : decode cX6_write 144 = .ok (.aload_n 0, 1) := by decide +kernel
theorem dX6_write_145 : decode cX6_write 145 = .ok (.getfield 17, 3) := by decide +kernel
theorem dX6_write_148 : decode cX6_write 148 = .ok (.iload_n 1, 1) := by decide +kernel
theorem dX6_write_149 : decode cX6_write 149 = .ok (.iaload, 1) := by decide +kernel
theorem dX6_write_150 : decode cX6_write 150 = .ok (.if_icmp .ge 10, 3) := by decide +kernel
theorem dX6_write_153 : decode cX6_write 153 = .ok (.iload 5, 2) := by decide +kernel
theorem dX6_write_155 : decode cX6_write 155 = .ok (.iload_n 3, 1) := by decide +kernel
theorem dX6_write_156 : decode cX6_write 156 = .ok (.iadd, 1) := by decide +kernel
theorem dX6_write_157 : decode cX6_write 157 = .ok (.goto 9, 3) := by decide +kernel
theorem dX6_write_160 : decode cX6_write 160 = .ok (.aload_n 0, 1) := by decide +kernel
theorem dX6_write_161 : decode cX6_write 161 = .ok (.getfield 17, 3) := by decide +kernel
theorem dX6_write_164 : decode cX6_write 164 = .ok (.iload_n 1, 1) := by decide +kernel
theorem dX6_write_165 : decode cX6_write 165 = .ok (.iaload, 1) := by decide +kernel
theorem dX6_write_166 : decode cX6_write 166 = .ok (.invokevirtual 163, 3) := by decide +kernel
theorem dX6_write_169 : decode cX6_write 169 = .ok (.iload 5, 2) := by decide +kernel
theorem dX6_write_171 : decode cX6_write 171 = .ok (.iload_n 3, 1) := by decide +kernel
theorem dX6_write_172 : decode cX6_write 172 = .ok (.iadd, 1) := by decide +kernel
theorem dX6_write_173 : decode cX6_write 173 = .ok (.istore 5, 2) := by decide +kernel
theorem dX6_write_175 : decode cX6_write 175 = .ok (.goto (-51), 3) := by decide +kernel
theorem dX6_write_178 : decode cX6_write 178 = .ok (.iload 4, 2) := by decide +kernel
theorem dX6_write_180 : decode cX6_write 180 = .ok (.ifCond .eq 10, 3) := by decide +kernel
theorem dX6_write_183 : decode cX6_write 183 = .ok (.aload_n 0, 1) := by decide +kernel
theorem dX6_write_184 : decode cX6_write 184 = .ok (.getfield 166, 3) := by decide +kernel
theorem dX6_write_187 : decode cX6_write 187 = .ok (.goto 4, 3) := by decide +kernel
theorem dX6_write_190 : decode cX6_write 190 = .ok (.iconst 0, 1) := by decide +kernel
theorem dX6_write_191 : decode cX6_write 191 = .ok (.istore 5, 2) := by decide +kernel
theorem dX6_write_193 : decode cX6_write 193 = .ok (.iload 5, 2) := by decide +kernel
theorem dX6_write_195 : decode cX6_write 195 = .ok (.aload_n 0, 1) := by decide +kernel
theorem dX6_write_196 : decode cX6_write 196 = .ok (.getfield 95, 3) := by decide +kernel
theorem dX6_write_199 : decode cX6_write 199 = .ok (.iadd, 1) := by decide +kernel
theorem dX6_write_200 : decode cX6_write 200 = .ok (.sipush 12000, 3) := by decide +kernel
theorem dX6_write_203 : decode cX6_write 203 = .ok (.if_icmp .le 6, 3) := by decide +kernel
theorem dX6_write_206 : decode cX6_write 206 = .ok (.bipush (-3), 2) := by decide +kernel
theorem dX6_write_208 : decode cX6_write 208 = .ok (.ireturn, 1) := by decide +kernel
theorem dX6_write_209 : decode cX6_write 209 = .ok (.iconst 0, 1) := by decide +kernel
theorem dX6_write_210 : decode cX6_write 210 = .ok (.istore 6, 2) := by decide +kernel
theorem dX6_write_212 : decode cX6_write 212 = .ok (.iload 6, 2) := by decide +kernel
theorem dX6_write_214 : decode cX6_write 214 = .ok (.aload_n 0, 1) := by decide +kernel
theorem dX6_write_215 : decode cX6_write 215 = .ok (.getfield 95, 3) := by decide +kernel
theorem dX6_write_218 : decode cX6_write 218 = .ok (.if_icmp .ge 26, 3) := by decide +kernel
theorem dX6_write_221 : decode cX6_write 221 = .ok (.aload_n 0, 1) := by decide +kernel
theorem dX6_write_222 : decode cX6_write 222 = .ok (.getfield 35, 3) := by decide +kernel
theorem dX6_write_225 : decode cX6_write 225 = .ok (.iload 5, 2) := by decide +kernel
theorem dX6_write_227 : decode cX6_write 227 = .ok (.iload 6, 2) := by decide +kernel
theorem dX6_write_229 : decode cX6_write 229 = .ok (.iadd, 1) := by decide +kernel
theorem dX6_write_230 : decode cX6_write 230 = .ok (.aload_n 0, 1) := by decide +kernel
theorem dX6_write_231 : decode cX6_write 231 = .ok (.getfield 39, 3) := by decide +kernel
theorem dX6_write_234 : decode cX6_write 234 = .ok (.iload 6, 2) := by decide +kernel
theorem dX6_write_236 : decode cX6_write 236 = .ok (.baload, 1) := by decide +kernel
theorem dX6_write_237 : decode cX6_write 237 = .ok (.bastore, 1) := by decide +kernel
theorem dX6_write_238 : decode cX6_write 238 = .ok (.iinc 6 1, 3) := by decide +kernel
theorem dX6_write_241 : decode cX6_write 241 = .ok (.goto (-29), 3) := by decide +kernel
theorem dX6_write_244 : decode cX6_write 244 = .ok (.aload_n 0, 1) := by decide +kernel
theorem dX6_write_245 : decode cX6_write 245 = .ok (.iload 5, 2) := by decide +kernel
theorem dX6_write_247 : decode cX6_write 247 = .ok (.aload_n 0, 1) := by decide +kernel
theorem dX6_write_248 : decode cX6_write 248 = .ok (.getfield 95, 3) := by decide +kernel
theorem dX6_write_251 : decode cX6_write 251 = .ok (.iadd, 1) := by decide +kernel
theorem dX6_write_252 : decode cX6_write 252 = .ok (.putfield 166, 3) := by decide +kernel
theorem dX6_write_255 : decode cX6_write 255 = .ok (.aload_n 0, 1) := by decide +kernel
theorem dX6_write_256 : decode cX6_write 256 = .ok (.getfield 166, 3) := by decide +kernel
theorem dX6_write_259 : decode cX6_write 259 = .ok (.ireturn, 1) := by decide +kernel
theorem dX6_fails_0 : decode cX6_fails 0 = .ok (.aload_n 0, 1) := by decide +kernel
theorem dX6_fails_1 : decode cX6_fails 1 = .ok (.iload_n 1, 1) := by decide +kernel
theorem dX6_fails_2 : decode cX6_fails 2 = .ok (.putfield 169, 3) := by decide +kernel
theorem dX6_fails_5 : decode cX6_fails 5 = .ok (.aload_n 0, 1) := by decide +kernel
theorem dX6_fails_6 : decode cX6_fails 6 = .ok (.iload_n 2, 1) := by decide +kernel
theorem dX6_fails_7 : decode cX6_fails 7 = .ok (.putfield 172, 3) := by decide +kernel
theorem dX6_fails_10 : decode cX6_fails 10 = .ok (.iconst 0, 1) := by decide +kernel
theorem dX6_fails_11 : decode cX6_fails 11 = .ok (.ireturn, 1) := by decide +kernel
theorem dX6_next_0 : decode cX6_next 0 = .ok (.aload_n 0, 1) := by decide +kernel
theorem dX6_next_1 : decode cX6_next 1 = .ok (.getfield 175, 3) := by decide +kernel
theorem dX6_next_4 : decode cX6_next 4 = .ok (.aload_n 0, 1) := by decide +kernel
theorem dX6_next_5 : decode cX6_next 5 = .ok (.getfield 178, 3) := by decide +kernel
theorem dX6_next_8 : decode cX6_next 8 = .ok (.if_icmp .lt 15, 3) := by decide +kernel
theorem dX6_next_11 : decode cX6_next 11 = .ok (.aload_n 0, 1) := by decide +kernel
theorem dX6_next_12 : decode cX6_next 12 = .ok (.iconst 1, 1) := by decide +kernel
theorem dX6_next_13 : decode cX6_next 13 = .ok (.aload_n 0, 1) := by decide +kernel
theorem dX6_next_14 : decode cX6_next 14 = .ok (.getfield 178, 3) := by decide +kernel
theorem dX6_next_17 : decode cX6_next 17 = .ok (.invokevirtual 181, 3) := by decide +kernel
theorem dX6_next_20 : decode cX6_next 20 = .ok (.istore_n 1, 1) := by decide +kernel
theorem dX6_next_21 : decode cX6_next 21 = .ok (.iconst 0, 1) := by decide +kernel
theorem dX6_next_22 : decode cX6_next 22 = .ok (.ireturn, 1) := by decide +kernel
theorem dX6_next_23 : decode cX6_next 23 = .ok (.aload_n 0, 1) := by decide +kernel
theorem dX6_next_24 : decode cX6_next 24 = .ok (.dup, 1) := by decide +kernel
theorem dX6_next_25 : decode cX6_next 25 = .ok (.getfield 175, 3) := by decide +kernel
theorem dX6_next_28 : decode cX6_next 28 = .ok (.iconst 1, 1) := by decide +kernel
theorem dX6_next_29 : decode cX6_next 29 = .ok (.iadd, 1) := by decide +kernel
theorem dX6_next_30 : decode cX6_next 30 = .ok (.putfield 175, 3) := by decide +kernel
theorem dX6_next_33 : decode cX6_next 33 = .ok (.aload_n 0, 1) := by decide +kernel
theorem dX6_next_34 : decode cX6_next 34 = .ok (.getfield 35, 3) := by decide +kernel
theorem dX6_next_37 : decode cX6_next 37 = .ok (.aload_n 0, 1) := by decide +kernel
theorem dX6_next_38 : decode cX6_next 38 = .ok (.getfield 175, 3) := by decide +kernel
theorem dX6_next_41 : decode cX6_next 41 = .ok (.iconst 1, 1) := by decide +kernel
theorem dX6_next_42 : decode cX6_next 42 = .ok (.isub, 1) := by decide +kernel
theorem dX6_next_43 : decode cX6_next 43 = .ok (.baload, 1) := by decide +kernel
theorem dX6_next_44 : decode cX6_next 44 = .ok (.sipush 255, 3) := by decide +kernel
theorem dX6_next_47 : decode cX6_next 47 = .ok (.iand, 1) := by decide +kernel
theorem dX6_next_48 : decode cX6_next 48 = .ok (.ireturn, 1) := by decide +kernel
theorem dX6_readVar_0 : decode cX6_readVar 0 = .ok (.lconst 0, 1) := by decide +kernel
theorem dX6_readVar_1 : decode cX6_readVar 1 = .ok (.lstore_n 1, 1) := by decide +kernel
theorem dX6_readVar_2 : decode cX6_readVar 2 = .ok (.iconst 0, 1) := by decide +kernel
theorem dX6_readVar_3 : decode cX6_readVar 3 = .ok (.istore_n 3, 1) := by decide +kernel
theorem dX6_readVar_4 : decode cX6_readVar 4 = .ok (.iload_n 3, 1) := by decide +kernel
theorem dX6_readVar_5 : decode cX6_readVar 5 = .ok (.bipush 10, 2) := by decide +kernel
theorem dX6_readVar_7 : decode cX6_readVar 7 = .ok (.if_icmp .ge 77, 3) := by decide +kernel
theorem dX6_readVar_10 : decode cX6_readVar 10 = .ok (.aload_n 0, 1) := by decide +kernel
theorem dX6_readVar_11 : decode cX6_readVar 11 = .ok (.getfield 175, 3) := by decide +kernel
theorem dX6_readVar_14 : decode cX6_readVar 14 = .ok (.istore 4, 2) := by decide +kernel
theorem dX6_readVar_16 : decode cX6_readVar 16 = .ok (.aload_n 0, 1) := by decide +kernel
theorem dX6_readVar_17 : decode cX6_readVar 17 = .ok (.invokevirtual 184, 3) := by decide +kernel
theorem dX6_readVar_20 : decode cX6_readVar 20 = .ok (.istore 5, 2) := by decide +kernel
theorem dX6_readVar_22 : decode cX6_readVar 22 = .ok (.aload_n 0, 1) := by decide +kernel
theorem dX6_readVar_23 : decode cX6_readVar 23 = .ok (.getfield 169, 3) := by decide +kernel
theorem dX6_readVar_26 : decode cX6_readVar 26 = .ok (.ifCond .eq 5, 3) := by decide +kernel
theorem dX6_readVar_29 : decode cX6_readVar 29 = .ok (.lconst 0, 1) := by decide +kernel
theorem dX6_readVar_30 : decode cX6_readVar 30 = .ok (.lreturn, 1) := by decide +kernel
theorem dX6_readVar_31 : decode cX6_readVar 31 = .ok (.iload_n 3, 1) := by decide +kernel
theorem dX6_readVar_32 : decode cX6_readVar 32 = .ok (.bipush 9, 2) := by decide +kernel
theorem dX6_readVar_34 : decode cX6_readVar 34 = .ok (.if_icmp .ne 20, 3) := by decide +kernel
theorem dX6_readVar_37 : decode cX6_readVar 37 = .ok (.iload 5, 2) := by decide +kernel
theorem dX6_readVar_39 : decode cX6_readVar 39 = .ok (.iconst 1, 1) := by decide +kernel
theorem dX6_readVar_40 : decode cX6_readVar 40 = .ok (.if_icmp .le 14, 3) := by decide +kernel
theorem dX6_readVar_43 : decode cX6_readVar 43 = .ok (.aload_n 0, 1) := by decide +kernel
theorem dX6_readVar_44 : decode cX6_readVar 44 = .ok (.iconst 2, 1) := by decide +kernel
theorem dX6_readVar_45 : decode cX6_readVar 45 = .ok (.iload 4, 2) := by decide +kernel
theorem dX6_readVar_47 : decode cX6_readVar 47 = .ok (.invokevirtual 181, 3) := by decide +kernel
theorem dX6_readVar_50 : decode cX6_readVar 50 = .ok (.istore 6, 2) := by decide +kernel
theorem dX6_readVar_52 : decode cX6_readVar 52 = .ok (.lconst 0, 1) := by decide +kernel
theorem dX6_readVar_53 : decode cX6_readVar 53 = .ok (.lreturn, 1) := by decide +kernel
theorem dX6_readVar_54 : decode cX6_readVar 54 = .ok (.lload_n 1, 1) := by decide +kernel
theorem dX6_readVar_55 : decode cX6_readVar 55 = .ok (.iload 5, 2) := by decide +kernel
theorem dX6_readVar_57 : decode cX6_readVar 57 = .ok (.bipush 127, 2) := by decide +kernel
theorem dX6_readVar_59 : decode cX6_readVar 59 = .ok (.iand, 1) := by decide +kernel
theorem dX6_readVar_60 : decode cX6_readVar 60 = .ok (.i2l, 1) := by decide +kernel
theorem dX6_readVar_61 : decode cX6_readVar 61 = .ok (.bipush 7, 2) := by decide +kernel
theorem dX6_readVar_63 : decode cX6_readVar 63 = .ok (.iload_n 3, 1) := by decide +kernel
theorem dX6_readVar_64 : decode cX6_readVar 64 = .ok (.imul, 1) := by decide +kernel
theorem dX6_readVar_65 : decode cX6_readVar 65 = .ok (.lshl, 1) := by decide +kernel
theorem dX6_readVar_66 : decode cX6_readVar 66 = .ok (.lor, 1) := by decide +kernel
theorem dX6_readVar_67 : decode cX6_readVar 67 = .ok (.lstore_n 1, 1) := by decide +kernel
theorem dX6_readVar_68 : decode cX6_readVar 68 = .ok (.iload 5, 2) := by decide +kernel
theorem dX6_readVar_70 : decode cX6_readVar 70 = .ok (.sipush 128, 3) := by decide +kernel
theorem dX6_readVar_73 : decode cX6_readVar 73 = .ok (.if_icmp .ge 5, 3) := by decide +kernel
theorem dX6_readVar_76 : decode cX6_readVar 76 = .ok (.lload_n 1, 1) := by decide +kernel
theorem dX6_readVar_77 : decode cX6_readVar 77 = .ok (.lreturn, 1) := by decide +kernel
theorem dX6_readVar_78 : decode cX6_readVar 78 = .ok (.iinc 3 1, 3) := by decide +kernel
theorem dX6_readVar_81 : decode cX6_readVar 81 = .ok (.goto (-77), 3) := by decide +kernel
theorem dX6_readVar_84 : decode cX6_readVar 84 = .ok (.lload_n 1, 1) := by decide +kernel
theorem dX6_readVar_85 : decode cX6_readVar 85 = .ok (.lreturn, 1) := by decide +kernel
theorem dX6_readZig_0 : decode cX6_readZig 0 = .ok (.aload_n 0, 1) := by decide +kernel
theorem dX6_readZig_1 : decode cX6_readZig 1 = .ok (.invokevirtual 188, 3) := by decide +kernel
theorem dX6_readZig_4 : decode cX6_readZig 4 = .ok (.lstore_n 1, 1) := by decide +kernel
theorem dX6_readZig_5 : decode cX6_readZig 5 = .ok (.lload_n 1, 1) := by decide +kernel
theorem dX6_readZig_6 : decode cX6_readZig 6 = .ok (.iconst 1, 1) := by decide +kernel
theorem dX6_readZig_7 : decode cX6_readZig 7 = .ok (.lushr, 1) := by decide +kernel
theorem dX6_readZig_8 : decode cX6_readZig 8 = .ok (.lconst 0, 1) := by decide +kernel
theorem dX6_readZig_9 : decode cX6_readZig 9 = .ok (.lload_n 1, 1) := by decide +kernel
theorem dX6_readZig_10 : decode cX6_readZig 10 = .ok (.lconst 1, 1) := by decide +kernel
theorem dX6_readZig_11 : decode cX6_readZig 11 = .ok (.land, 1) := by decide +kernel
theorem dX6_readZig_12 : decode cX6_readZig 12 = .ok (.lsub, 1) := by decide +kernel
theorem dX6_readZig_13 : decode cX6_readZig 13 = .ok (.lxor, 1) := by decide +kernel
theorem dX6_readZig_14 : decode cX6_readZig 14 = .ok (.lreturn, 1) := by decide +kernel
theorem dX6_readBytes_0 : decode cX6_readBytes 0 = .ok (.lconst 0, 1) := by decide +kernel
theorem dX6_readBytes_1 : decode cX6_readBytes 1 = .ok (.lstore_n 2, 1) := by decide +kernel
theorem dX6_readBytes_2 : decode cX6_readBytes 2 = .ok (.iconst 0, 1) := by decide +kernel
theorem dX6_readBytes_3 : decode cX6_readBytes 3 = .ok (.istore 4, 2) := by decide +kernel
theorem dX6_readBytes_5 : decode cX6_readBytes 5 = .ok (.iload 4, 2) := by decide +kernel
theorem dX6_readBytes_7 : decode cX6_readBytes 7 = .ok (.iload_n 1, 1) := by decide +kernel
theorem dX6_readBytes_8 : decode cX6_readBytes 8 = .ok (.if_icmp .ge 30, 3) := by decide +kernel
theorem dX6_readBytes_11 : decode cX6_readBytes 11 = .ok (.aload_n 0, 1) := by decide +kernel
theorem dX6_readBytes_12 : decode cX6_readBytes 12 = .ok (.getfield 169, 3) := by decide +kernel
theorem dX6_readBytes_15 : decode cX6_readBytes 15 = .ok (.ifCond .ne 23, 3) := by decide +kernel
theorem dX6_readBytes_18 : decode cX6_readBytes 18 = .ok (.lload_n 2, 1) := by decide +kernel
theorem dX6_readBytes_19 : decode cX6_readBytes 19 = .ok (.aload_n 0, 1) := by decide +kernel
theorem dX6_readBytes_20 : decode cX6_readBytes 20 = .ok (.invokevirtual 184, 3) := by decide +kernel
theorem dX6_readBytes_23 : decode cX6_readBytes 23 = .ok (.i2l, 1) := by decide +kernel
theorem dX6_readBytes_24 : decode cX6_readBytes 24 = .ok (.bipush 8, 2) := by decide +kernel
theorem dX6_readBytes_26 : decode cX6_readBytes 26 = .ok (.iload 4, 2) := by decide +kernel
theorem dX6_readBytes_28 : decode cX6_readBytes 28 = .ok (.imul, 1) := by decide +kernel
theorem dX6_readBytes_29 : decode cX6_readBytes 29 = .ok (.lshl, 1) := by decide +kernel
theorem dX6_readBytes_30 : decode cX6_readBytes 30 = .ok (.lor, 1) := by decide +kernel
theorem dX6_readBytes_31 : decode cX6_readBytes 31 = .ok (.lstore_n 2, 1) := by decide +kernel
theorem dX6_readBytes_32 : decode cX6_readBytes 32 = .ok (.iinc 4 1, 3) := by decide +kernel
theorem dX6_readBytes_35 : decode cX6_readBytes 35 = .ok (.goto (-30), 3) := by decide +kernel
theorem dX6_readBytes_38 : decode cX6_readBytes 38 = .ok (.lload_n 2, 1) := by decide +kernel
theorem dX6_readBytes_39 : decode cX6_readBytes 39 = .ok (.lreturn, 1) := by decide +kernel
theorem dX6_readPacked_0 : decode cX6_readPacked 0 = .ok (.lconst 0, 1) := by decide +kernel
theorem dX6_readPacked_1 : decode cX6_readPacked 1 = .ok (.lstore_n 2, 1) := by decide +kernel
theorem dX6_readPacked_2 : decode cX6_readPacked 2 = .ok (.iconst 0, 1) := by decide +kernel
theorem dX6_readPacked_3 : decode cX6_readPacked 3 = .ok (.istore 4, 2) := by decide +kernel
theorem dX6_readPacked_5 : decode cX6_readPacked 5 = .ok (.iload 4, 2) := by decide +kernel
theorem dX6_readPacked_7 : decode cX6_readPacked 7 = .ok (.iload_n 1, 1) := by decide +kernel
theorem dX6_readPacked_8 : decode cX6_readPacked 8 = .ok (.if_icmp .ge 68, 3) := by decide +kernel
theorem dX6_readPacked_11 : decode cX6_readPacked 11 = .ok (.aload_n 0, 1) := by decide +kernel
theorem dX6_readPacked_12 : decode cX6_readPacked 12 = .ok (.getfield 169, 3) := by decide +kernel
theorem dX6_readPacked_15 : decode cX6_readPacked 15 = .ok (.ifCond .ne 61, 3) := by decide +kernel
theorem dX6_readPacked_18 : decode cX6_readPacked 18 = .ok (.aload_n 0, 1) := by decide +kernel
theorem dX6_readPacked_19 : decode cX6_readPacked 19 = .ok (.getfield 192, 3) := by decide +kernel
theorem dX6_readPacked_22 : decode cX6_readPacked 22 = .ok (.ifCond .ne 17, 3) := by decide +kernel
theorem dX6_readPacked_25 : decode cX6_readPacked 25 = .ok (.aload_n 0, 1) := by decide +kernel
theorem dX6_readPacked_26 : decode cX6_readPacked 26 = .ok (.aload_n 0, 1) := by decide +kernel
theorem dX6_readPacked_27 : decode cX6_readPacked 27 = .ok (.invokevirtual 184, 3) := by decide +kernel
theorem dX6_readPacked_30 : decode cX6_readPacked 30 = .ok (.putfield 195, 3) := by decide +kernel
theorem dX6_readPacked_33 : decode cX6_readPacked 33 = .ok (.aload_n 0, 1) := by decide +kernel
theorem dX6_readPacked_34 : decode cX6_readPacked 34 = .ok (.bipush 8, 2) := by decide +kernel
theorem dX6_readPacked_36 : decode cX6_readPacked 36 = .ok (.putfield 192, 3) := by decide +kernel
theorem dX6_readPacked_39 : decode cX6_readPacked 39 = .ok (.lload_n 2, 1) := by decide +kernel
theorem dX6_readPacked_40 : decode cX6_readPacked 40 = .ok (.aload_n 0, 1) := by decide +kernel
theorem dX6_readPacked_41 : decode cX6_readPacked 41 = .ok (.getfield 195, 3) := by decide +kernel
theorem dX6_readPacked_44 : decode cX6_readPacked 44 = .ok (.bipush 8, 2) := by decide +kernel
theorem dX6_readPacked_46 : decode cX6_readPacked 46 = .ok (.aload_n 0, 1) := by decide +kernel
theorem dX6_readPacked_47 : decode cX6_readPacked 47 = .ok (.getfield 192, 3) := by decide +kernel
theorem dX6_readPacked_50 : decode cX6_readPacked 50 = .ok (.isub, 1) := by decide +kernel
theorem dX6_readPacked_51 : decode cX6_readPacked 51 = .ok (.ishr, 1) := by decide +kernel
theorem dX6_readPacked_52 : decode cX6_readPacked 52 = .ok (.iconst 1, 1) := by decide +kernel
theorem dX6_readPacked_53 : decode cX6_readPacked 53 = .ok (.iand, 1) := by decide +kernel
theorem dX6_readPacked_54 : decode cX6_readPacked 54 = .ok (.i2l, 1) := by decide +kernel
theorem dX6_readPacked_55 : decode cX6_readPacked 55 = .ok (.iload 4, 2) := by decide +kernel
theorem dX6_readPacked_57 : decode cX6_readPacked 57 = .ok (.lshl, 1) := by decide +kernel
theorem dX6_readPacked_58 : decode cX6_readPacked 58 = .ok (.lor, 1) := by decide +kernel
theorem dX6_readPacked_59 : decode cX6_readPacked 59 = .ok (.lstore_n 2, 1) := by decide +kernel
theorem dX6_readPacked_60 : decode cX6_readPacked 60 = .ok (.aload_n 0, 1) := by decide +kernel
theorem dX6_readPacked_61 : decode cX6_readPacked 61 = .ok (.dup, 1) := by decide +kernel
theorem dX6_readPacked_62 : decode cX6_readPacked 62 = .ok (.getfield 192, 3) := by decide +kernel
theorem dX6_readPacked_65 : decode cX6_readPacked 65 = .ok (.iconst 1, 1) := by decide +kernel
theorem dX6_readPacked_66 : decode cX6_readPacked 66 = .ok (.isub, 1) := by decide +kernel
theorem dX6_readPacked_67 : decode cX6_readPacked 67 = .ok (.putfield 192, 3) := by decide +kernel
theorem dX6_readPacked_70 : decode cX6_readPacked 70 = .ok (.iinc 4 1, 3) := by decide +kernel
theorem dX6_readPacked_73 : decode cX6_readPacked 73 = .ok (.goto (-68), 3) := by decide +kernel
theorem dX6_readPacked_76 : decode cX6_readPacked 76 = .ok (.lload_n 2, 1) := by decide +kernel
theorem dX6_readPacked_77 : decode cX6_readPacked 77 = .ok (.lreturn, 1) := by decide +kernel
theorem dX6_readRuns_0 : decode cX6_readRuns 0 = .ok (.iconst 0, 1) := by decide +kernel
theorem dX6_readRuns_1 : decode cX6_readRuns 1 = .ok (.istore_n 3, 1) := by decide +kernel
theorem dX6_readRuns_2 : decode cX6_readRuns 2 = .ok (.iload_n 3, 1) := by decide +kernel
theorem dX6_readRuns_3 : decode cX6_readRuns 3 = .ok (.iload_n 1, 1) := by decide +kernel
theorem dX6_readRuns_4 : decode cX6_readRuns 4 = .ok (.if_icmp .ge 232, 3) := by decide +kernel
theorem dX6_readRuns_7 : decode cX6_readRuns 7 = .ok (.aload_n 0, 1) := by decide +kernel
theorem dX6_readRuns_8 : decode cX6_readRuns 8 = .ok (.getfield 175, 3) := by decide +kernel
theorem dX6_readRuns_11 : decode cX6_readRuns 11 = .ok (.istore 4, 2) := by decide +kernel
theorem dX6_readRuns_13 : decode cX6_readRuns 13 = .ok (.aload_n 0, 1) := by decide +kernel
theorem dX6_readRuns_14 : decode cX6_readRuns 14 = .ok (.invokevirtual 188, 3) := by decide +kernel
theorem dX6_readRuns_17 : decode cX6_readRuns 17 = .ok (.lstore 5, 2) := by decide +kernel
theorem dX6_readRuns_19 : decode cX6_readRuns 19 = .ok (.aload_n 0, 1) := by decide +kernel
theorem dX6_readRuns_20 : decode cX6_readRuns 20 = .ok (.getfield 169, 3) := by decide +kernel
theorem dX6_readRuns_23 : decode cX6_readRuns 23 = .ok (.ifCond .eq 5, 3) := by decide +kernel
theorem dX6_readRuns_26 : decode cX6_readRuns 26 = .ok (.iconst 0, 1) := by decide +kernel
theorem dX6_readRuns_27 : decode cX6_readRuns 27 = .ok (.ireturn, 1) := by decide +kernel
theorem dX6_readRuns_28 : decode cX6_readRuns 28 = .ok (.lload 5, 2) := by decide +kernel
theorem dX6_readRuns_30 : decode cX6_readRuns 30 = .ok (.iconst 1, 1) := by decide +kernel
theorem dX6_readRuns_31 : decode cX6_readRuns 31 = .ok (.lushr, 1) := by decide +kernel
theorem dX6_readRuns_32 : decode cX6_readRuns 32 = .ok (.lstore 7, 2) := by decide +kernel
theorem dX6_readRuns_34 : decode cX6_readRuns 34 = .ok (.lload 5, 2) := by decide +kernel
theorem dX6_readRuns_36 : decode cX6_readRuns 36 = .ok (.lconst 1, 1) := by decide +kernel
theorem dX6_readRuns_37 : decode cX6_readRuns 37 = .ok (.land, 1) := by decide +kernel
theorem dX6_readRuns_38 : decode cX6_readRuns 38 = .ok (.lconst 1, 1) := by decide +kernel
theorem dX6_readRuns_39 : decode cX6_readRuns 39 = .ok (.lcmp, 1) := by decide +kernel
theorem dX6_readRuns_40 : decode cX6_readRuns 40 = .ok (.ifCond .ne 7, 3) := by decide +kernel
theorem dX6_readRuns_43 : decode cX6_readRuns 43 = .ok (.iconst 1, 1) := by decide +kernel
theorem dX6_readRuns_44 : decode cX6_readRuns 44 = .ok (.goto 4, 3) := by decide +kernel
theorem dX6_readRuns_47 : decode cX6_readRuns 47 = .ok (.iconst 0, 1) := by decide +kernel
theorem dX6_readRuns_48 : decode cX6_readRuns 48 = .ok (.istore 9, 2) := by decide +kernel
theorem dX6_readRuns_50 : decode cX6_readRuns 50 = .ok (.iload_n 1, 1) := by decide +kernel
theorem dX6_readRuns_51 : decode cX6_readRuns 51 = .ok (.iload_n 3, 1) := by decide +kernel
theorem dX6_readRuns_52 : decode cX6_readRuns 52 = .ok (.isub, 1) := by decide +kernel
theorem dX6_readRuns_53 : decode cX6_readRuns 53 = .ok (.istore 10, 2) := by decide +kernel
theorem dX6_readRuns_55 : decode cX6_readRuns 55 = .ok (.lload 7, 2) := by decide +kernel
theorem dX6_readRuns_57 : decode cX6_readRuns 57 = .ok (.lconst 0, 1) := by decide +kernel
theorem dX6_readRuns_58 : decode cX6_readRuns 58 = .ok (.lcmp, 1) := by decide +kernel
theorem dX6_readRuns_59 : decode cX6_readRuns 59 = .ok (.ifCond .eq 28, 3) := by decide +kernel
theorem dX6_readRuns_62 : decode cX6_readRuns 62 = .ok (.lload 7, 2) := by decide +kernel
theorem dX6_readRuns_64 : decode cX6_readRuns 64 = .ok (.iload 9, 2) := by decide +kernel
theorem dX6_readRuns_66 : decode cX6_readRuns 66 = .ok (.ifCond .eq 14, 3) := by decide +kernel
theorem dX6_readRuns_69 : decode cX6_readRuns 69 = .ok (.iload 10, 2) := by decide +kernel
theorem dX6_readRuns_71 : decode cX6_readRuns 71 = .ok (.bipush 7, 2) := by decide +kernel
theorem dX6_readRuns_73 : decode cX6_readRuns 73 = .ok (.iadd, 1) := by decide +kernel
theorem dX6_readRuns_74 : decode cX6_readRuns 74 = .ok (.bipush 8, 2) := by decide +kernel
theorem dX6_readRuns_76 : decode cX6_readRuns 76 = .ok (.idiv, 1) := by decide +kernel
theorem dX6_readRuns_77 : decode cX6_readRuns 77 = .ok (.goto 5, 3) := by decide +kernel
theorem dX6_readRuns_80 : decode cX6_readRuns 80 = .ok (.iload 10, 2) := by decide +kernel
theorem dX6_readRuns_82 : decode cX6_readRuns 82 = .ok (.i2l, 1) := by decide +kernel
theorem dX6_readRuns_83 : decode cX6_readRuns 83 = .ok (.lcmp, 1) := by decide +kernel
theorem dX6_readRuns_84 : decode cX6_readRuns 84 = .ok (.ifCond .le 11, 3) := by decide +kernel
theorem dX6_readRuns_87 : decode cX6_readRuns 87 = .ok (.aload_n 0, 1) := by decide +kernel
theorem dX6_readRuns_88 : decode cX6_readRuns 88 = .ok (.iconst 3, 1) := by decide +kernel
theorem dX6_readRuns_89 : decode cX6_readRuns 89 = .ok (.iload 4, 2) := by decide +kernel
theorem dX6_readRuns_91 : decode cX6_readRuns 91 = .ok (.invokevirtual 181, 3) := by decide +kernel
theorem dX6_readRuns_94 : decode cX6_readRuns 94 = .ok (.ireturn, 1) := by decide +kernel
theorem dX6_readRuns_95 : decode cX6_readRuns 95 = .ok (.iload 9, 2) := by decide +kernel
theorem dX6_readRuns_97 : decode cX6_readRuns 97 = .ok (.ifCond .eq 63, 3) := by decide +kernel
theorem dX6_readRuns_100 : decode cX6_readRuns 100 = .ok (.aload_n 0, 1) := by decide +kernel
theorem dX6_readRuns_101 : decode cX6_readRuns 101 = .ok (.iconst 0, 1) := by decide +kernel
theorem dX6_readRuns_102 : decode cX6_readRuns 102 = .ok (.putfield 192, 3) := by decide +kernel
theorem dX6_readRuns_105 : decode cX6_readRuns 105 = .ok (.iconst 0, 1) := by decide +kernel
theorem dX6_readRuns_106 : decode cX6_readRuns 106 = .ok (.istore 11, 2) := by decide +kernel
theorem dX6_readRuns_108 : decode cX6_readRuns 108 = .ok (.iload 11, 2) := by decide +kernel
theorem dX6_readRuns_110 : decode cX6_readRuns 110 = .ok (.bipush 8, 2) := by decide +kernel
theorem dX6_readRuns_112 : decode cX6_readRuns 112 = .ok (.lload 7, 2) := by decide +kernel
theorem dX6_readRuns_114 : decode cX6_readRuns 114 = .ok (.l2i, 1) := by decide +kernel
theorem dX6_readRuns_115 : decode cX6_readRuns 115 = .ok (.imul, 1) := by decide +kernel
theorem dX6_readRuns_116 : decode cX6_readRuns 116 = .ok (.if_icmp .ge 41, 3) := by decide +kernel
theorem dX6_readRuns_119 : decode cX6_readRuns 119 = .ok (.aload_n 0, 1) := by decide +kernel
theorem dX6_readRuns_120 : decode cX6_readRuns 120 = .ok (.iload_n 2, 1) := by decide +kernel
theorem dX6_readRuns_121 : decode cX6_readRuns 121 = .ok (.invokevirtual 198, 3) := by decide +kernel
theorem dX6_readRuns_124 : decode cX6_readRuns 124 = .ok (.lstore 12, 2) := by decide +kernel
theorem dX6_readRuns_126 : decode cX6_readRuns 126 = .ok (.aload_n 0, 1) := by decide +kernel
theorem dX6_readRuns_127 : decode cX6_readRuns 127 = .ok (.getfield 169, 3) := by decide +kernel
theorem dX6_readRuns_130 : decode cX6_readRuns 130 = .ok (.ifCond .eq 5, 3) := by decide +kernel
theorem dX6_readRuns_133 : decode cX6_readRuns 133 = .ok (.iconst 0, 1) := by decide +kernel
theorem dX6_readRuns_134 : decode cX6_readRuns 134 = .ok (.ireturn, 1) := by decide +kernel
theorem dX6_readRuns_135 : decode cX6_readRuns 135 = .ok (.iload_n 3, 1) := by decide +kernel
theorem dX6_readRuns_136 : decode cX6_readRuns 136 = .ok (.iload_n 1, 1) := by decide +kernel
theorem dX6_readRuns_137 : decode cX6_readRuns 137 = .ok (.if_icmp .ge 14, 3) := by decide +kernel
theorem dX6_readRuns_140 : decode cX6_readRuns 140 = .ok (.aload_n 0, 1) := by decide +kernel
theorem dX6_readRuns_141 : decode cX6_readRuns 141 = .ok (.getfield 42, 3) := by decide +kernel
theorem dX6_readRuns_144 : decode cX6_readRuns 144 = .ok (.iload_n 3, 1) := by decide +kernel
theorem dX6_readRuns_145 : decode cX6_readRuns 145 = .ok (.lload 12, 2) := by decide +kernel
theorem dX6_readRuns_147 : decode cX6_readRuns 147 = .ok (.lastore, 1) := by decide +kernel
theorem dX6_readRuns_148 : decode cX6_readRuns 148 = .ok (.iinc 3 1, 3) := by decide +kernel
theorem dX6_readRuns_151 : decode cX6_readRuns 151 = .ok (.iinc 11 1, 3) := by decide +kernel
theorem dX6_readRuns_154 : decode cX6_readRuns 154 = .ok (.goto (-46), 3) := by decide +kernel
theorem dX6_readRuns_157 : decode cX6_readRuns 157 = .ok (.goto 76, 3) := by decide +kernel
theorem dX6_readRuns_160 : decode cX6_readRuns 160 = .ok (.aload_n 0, 1) := by decide +kernel
theorem dX6_readRuns_161 : decode cX6_readRuns 161 = .ok (.getfield 175, 3) := by decide +kernel
theorem dX6_readRuns_164 : decode cX6_readRuns 164 = .ok (.istore 4, 2) := by decide +kernel
theorem dX6_readRuns_166 : decode cX6_readRuns 166 = .ok (.aload_n 0, 1) := by decide +kernel
theorem dX6_readRuns_167 : decode cX6_readRuns 167 = .ok (.iload_n 2, 1) := by decide +kernel
theorem dX6_readRuns_168 : decode cX6_readRuns 168 = .ok (.bipush 7, 2) := by decide +kernel
theorem dX6_readRuns_170 : decode cX6_readRuns 170 = .ok (.iadd, 1) := by decide +kernel
theorem dX6_readRuns_171 : decode cX6_readRuns 171 = .ok (.bipush 8, 2) := by decide +kernel
theorem dX6_readRuns_173 : decode cX6_readRuns 173 = .ok (.idiv, 1) := by decide +kernel
theorem dX6_readRuns_174 : decode cX6_readRuns 174 = .ok (.invokevirtual 202, 3) := by decide +kernel
theorem dX6_readRuns_177 : decode cX6_readRuns 177 = .ok (.lstore 11, 2) := by decide +kernel
theorem dX6_readRuns_179 : decode cX6_readRuns 179 = .ok (.aload_n 0, 1) := by decide +kernel
theorem dX6_readRuns_180 : decode cX6_readRuns 180 = .ok (.getfield 169, 3) := by decide +kernel
theorem dX6_readRuns_183 : decode cX6_readRuns 183 = .ok (.ifCond .eq 5, 3) := by decide +kernel
theorem dX6_readRuns_186 : decode cX6_readRuns 186 = .ok (.iconst 0, 1) := by decide +kernel
theorem dX6_readRuns_187 : decode cX6_readRuns 187 = .ok (.ireturn, 1) := by decide +kernel
theorem dX6_readRuns_188 : decode cX6_readRuns 188 = .ok (.lload 11, 2) := by decide +kernel
theorem dX6_readRuns_190 : decode cX6_readRuns 190 = .ok (.iload_n 2, 1) := by decide +kernel
theorem dX6_readRuns_191 : decode cX6_readRuns 191 = .ok (.lushr, 1) := by decide +kernel
theorem dX6_readRuns_192 : decode cX6_readRuns 192 = .ok (.lconst 0, 1) := by decide +kernel
theorem dX6_readRuns_193 : decode cX6_readRuns 193 = .ok (.lcmp, 1) := by decide +kernel
theorem dX6_readRuns_194 : decode cX6_readRuns 194 = .ok (.ifCond .eq 11, 3) := by decide +kernel
theorem dX6_readRuns_197 : decode cX6_readRuns 197 = .ok (.aload_n 0, 1) := by decide +kernel
theorem dX6_readRuns_198 : decode cX6_readRuns 198 = .ok (.iconst 4, 1) := by decide +kernel
theorem dX6_readRuns_199 : decode cX6_readRuns 199 = .ok (.iload 4, 2) := by decide +kernel
theorem dX6_readRuns_201 : decode cX6_readRuns 201 = .ok (.invokevirtual 181, 3) := by decide +kernel
theorem dX6_readRuns_204 : decode cX6_readRuns 204 = .ok (.ireturn, 1) := by decide +kernel
theorem dX6_readRuns_205 : decode cX6_readRuns 205 = .ok (.iconst 0, 1) := by decide +kernel
theorem dX6_readRuns_206 : decode cX6_readRuns 206 = .ok (.istore 13, 2) := by decide +kernel
theorem dX6_readRuns_208 : decode cX6_readRuns 208 = .ok (.iload 13, 2) := by decide +kernel
theorem dX6_readRuns_210 : decode cX6_readRuns 210 = .ok (.lload 7, 2) := by decide +kernel
theorem dX6_readRuns_212 : decode cX6_readRuns 212 = .ok (.l2i, 1) := by decide +kernel
theorem dX6_readRuns_213 : decode cX6_readRuns 213 = .ok (.if_icmp .ge 20, 3) := by decide +kernel
theorem dX6_readRuns_216 : decode cX6_readRuns 216 = .ok (.aload_n 0, 1) := by decide +kernel
theorem dX6_readRuns_217 : decode cX6_readRuns 217 = .ok (.getfield 42, 3) := by decide +kernel
theorem dX6_readRuns_220 : decode cX6_readRuns 220 = .ok (.iload_n 3, 1) := by decide +kernel
theorem dX6_readRuns_221 : decode cX6_readRuns 221 = .ok (.lload 11, 2) := by decide +kernel
theorem dX6_readRuns_223 : decode cX6_readRuns 223 = .ok (.lastore, 1) := by decide +kernel
theorem dX6_readRuns_224 : decode cX6_readRuns 224 = .ok (.iinc 3 1, 3) := by decide +kernel
theorem dX6_readRuns_227 : decode cX6_readRuns 227 = .ok (.iinc 13 1, 3) := by decide +kernel
theorem dX6_readRuns_230 : decode cX6_readRuns 230 = .ok (.goto (-22), 3) := by decide +kernel
theorem dX6_readRuns_233 : decode cX6_readRuns 233 = .ok (.goto (-231), 3) := by decide +kernel
theorem dX6_readRuns_236 : decode cX6_readRuns 236 = .ok (.iconst 1, 1) := by decide +kernel
theorem dX6_readRuns_237 : decode cX6_readRuns 237 = .ok (.ireturn, 1) := by decide +kernel
theorem dX6_wants_0 : decode cX6_wants 0 = .ok (.aload_n 0, 1) := by decide +kernel
theorem dX6_wants_1 : decode cX6_wants 1 = .ok (.invokevirtual 188, 3) := by decide +kernel
theorem dX6_wants_4 : decode cX6_wants 4 = .ok (.lstore 4, 2) := by decide +kernel
theorem dX6_wants_6 : decode cX6_wants 6 = .ok (.aload_n 0, 1) := by decide +kernel
theorem dX6_wants_7 : decode cX6_wants 7 = .ok (.getfield 169, 3) := by decide +kernel
theorem dX6_wants_10 : decode cX6_wants 10 = .ok (.ifCond .ne 23, 3) := by decide +kernel
theorem dX6_wants_13 : decode cX6_wants 13 = .ok (.lload 4, 2) := by decide +kernel
theorem dX6_wants_15 : decode cX6_wants 15 = .ok (.lload_n 1, 1) := by decide +kernel
theorem dX6_wants_16 : decode cX6_wants 16 = .ok (.lcmp, 1) := by decide +kernel
theorem dX6_wants_17 : decode cX6_wants 17 = .ok (.ifCond .eq 12, 3) := by decide +kernel
theorem dX6_wants_20 : decode cX6_wants 20 = .ok (.aload_n 0, 1) := by decide +kernel
theorem dX6_wants_21 : decode cX6_wants 21 = .ok (.iconst 5, 1) := by decide +kernel
theorem dX6_wants_22 : decode cX6_wants 22 = .ok (.iload_n 3, 1) := by decide +kernel
theorem dX6_wants_23 : decode cX6_wants 23 = .ok (.invokevirtual 181, 3) := by decide +kernel
theorem dX6_wants_26 : decode cX6_wants 26 = .ok (.ifCond .eq 7, 3) := by decide +kernel
theorem dX6_wants_29 : decode cX6_wants 29 = .ok (.iconst 1, 1) := by decide +kernel
theorem dX6_wants_30 : decode cX6_wants 30 = .ok (.goto 4, 3) := by decide +kernel
theorem dX6_wants_33 : decode cX6_wants 33 = .ok (.iconst 0, 1) := by decide +kernel
theorem dX6_wants_34 : decode cX6_wants 34 = .ok (.ireturn, 1) := by decide +kernel
theorem dX6_readDifferences_0 : decode cX6_readDifferences 0 = .ok (.aload_n 0, 1) := by decide +kernel
theorem dX6_readDifferences_1 : decode cX6_readDifferences 1 = .ok (.getfield 175, 3) := by decide +kernel
theorem dX6_readDifferences_4 : decode cX6_readDifferences 4 = .ok (.istore_n 3, 1) := by decide +kernel
theorem dX6_readDifferences_5 : decode cX6_readDifferences 5 = .ok (.aload_n 0, 1) := by decide +kernel
theorem dX6_readDifferences_6 : decode cX6_readDifferences 6 = .ok (.ldc2_w 124, 3) := by decide +kernel
theorem dX6_readDifferences_9 : decode cX6_readDifferences 9 = .ok (.iload_n 3, 1) := by decide +kernel
theorem dX6_readDifferences_10 : decode cX6_readDifferences 10 = .ok (.invokevirtual 205, 3) := by decide +kernel
theorem dX6_readDifferences_13 : decode cX6_readDifferences 13 = .ok (.ifCond .eq 24, 3) := by decide +kernel
theorem dX6_readDifferences_16 : decode cX6_readDifferences 16 = .ok (.aload_n 0, 1) := by decide +kernel
theorem dX6_readDifferences_17 : decode cX6_readDifferences 17 = .ok (.ldc2_w 86, 3) := by decide +kernel
theorem dX6_readDifferences_20 : decode cX6_readDifferences 20 = .ok (.iload_n 3, 1) := by decide +kernel
theorem dX6_readDifferences_21 : decode cX6_readDifferences 21 = .ok (.invokevirtual 205, 3) := by decide +kernel
theorem dX6_readDifferences_24 : decode cX6_readDifferences 24 = .ok (.ifCond .eq 13, 3) := by decide +kernel
theorem dX6_readDifferences_27 : decode cX6_readDifferences 27 = .ok (.aload_n 0, 1) := by decide +kernel
theorem dX6_readDifferences_28 : decode cX6_readDifferences 28 = .ok (.iload_n 1, 1) := by decide +kernel
theorem dX6_readDifferences_29 : decode cX6_readDifferences 29 = .ok (.i2l, 1) := by decide +kernel
theorem dX6_readDifferences_30 : decode cX6_readDifferences 30 = .ok (.iload_n 3, 1) := by decide +kernel
theorem dX6_readDifferences_31 : decode cX6_readDifferences 31 = .ok (.invokevirtual 205, 3) := by decide +kernel
theorem dX6_readDifferences_34 : decode cX6_readDifferences 34 = .ok (.ifCond .ne 5, 3) := by decide +kernel
theorem dX6_readDifferences_37 : decode cX6_readDifferences 37 = .ok (.iconst 0, 1) := by decide +kernel
theorem dX6_readDifferences_38 : decode cX6_readDifferences 38 = .ok (.ireturn, 1) := by decide +kernel
theorem dX6_readDifferences_39 : decode cX6_readDifferences 39 = .ok (.aload_n 0, 1) := by decide +kernel
theorem dX6_readDifferences_40 : decode cX6_readDifferences 40 = .ok (.invokevirtual 209, 3) := by decide +kernel
theorem dX6_readDifferences_43 : decode cX6_readDifferences 43 = .ok (.lstore 4, 2) := by decide +kernel
theorem dX6_readDifferences_45 : decode cX6_readDifferences 45 = .ok (.aload_n 0, 1) := by decide +kernel
theorem dX6_readDifferences_46 : decode cX6_readDifferences 46 = .ok (.getfield 169, 3) := by decide +kernel
theorem dX6_readDifferences_49 : decode cX6_readDifferences 49 = .ok (.ifCond .eq 5, 3) := by decide +kernel
theorem dX6_readDifferences_52 : decode cX6_readDifferences 52 = .ok (.iconst 0, 1) := by decide +kernel
theorem dX6_readDifferences_53 : decode cX6_readDifferences 53 = .ok (.ireturn, 1) := by decide +kernel
theorem dX6_readDifferences_54 : decode cX6_readDifferences 54 = .ok (.iload_n 2, 1) := by decide +kernel
theorem dX6_readDifferences_55 : decode cX6_readDifferences 55 = .ok (.ifCond .eq 10, 3) := by decide +kernel
theorem dX6_readDifferences_58 : decode cX6_readDifferences 58 = .ok (.lload 4, 2) := by decide +kernel
theorem dX6_readDifferences_60 : decode cX6_readDifferences 60 = .ok (.l2i, 1) := by decide +kernel
theorem dX6_readDifferences_61 : decode cX6_readDifferences 61 = .ok (.i2l, 1) := by decide +kernel
theorem dX6_readDifferences_62 : decode cX6_readDifferences 62 = .ok (.goto 5, 3) := by decide +kernel
theorem dX6_readDifferences_65 : decode cX6_readDifferences 65 = .ok (.lload 4, 2) := by decide +kernel
theorem dX6_readDifferences_67 : decode cX6_readDifferences 67 = .ok (.lstore 4, 2) := by decide +kernel
theorem dX6_readDifferences_69 : decode cX6_readDifferences 69 = .ok (.aload_n 0, 1) := by decide +kernel
theorem dX6_readDifferences_70 : decode cX6_readDifferences 70 = .ok (.getfield 42, 3) := by decide +kernel
theorem dX6_readDifferences_73 : decode cX6_readDifferences 73 = .ok (.iconst 0, 1) := by decide +kernel
theorem dX6_readDifferences_74 : decode cX6_readDifferences 74 = .ok (.lload 4, 2) := by decide +kernel
theorem dX6_readDifferences_76 : decode cX6_readDifferences 76 = .ok (.lastore, 1) := by decide +kernel
theorem dX6_readDifferences_77 : decode cX6_readDifferences 77 = .ok (.iconst 1, 1) := by decide +kernel
theorem dX6_readDifferences_78 : decode cX6_readDifferences 78 = .ok (.istore 6, 2) := by decide +kernel
theorem dX6_readDifferences_80 : decode cX6_readDifferences 80 = .ok (.iload 6, 2) := by decide +kernel
theorem dX6_readDifferences_82 : decode cX6_readDifferences 82 = .ok (.iload_n 1, 1) := by decide +kernel
theorem dX6_readDifferences_83 : decode cX6_readDifferences 83 = .ok (.if_icmp .ge 287, 3) := by decide +kernel
theorem dX6_readDifferences_86 : decode cX6_readDifferences 86 = .ok (.iload 6, 2) := by decide +kernel
theorem dX6_readDifferences_88 : decode cX6_readDifferences 88 = .ok (.sipush 128, 3) := by decide +kernel
theorem dX6_readDifferences_91 : decode cX6_readDifferences 91 = .ok (.iadd, 1) := by decide +kernel
theorem dX6_readDifferences_92 : decode cX6_readDifferences 92 = .ok (.iload_n 1, 1) := by decide +kernel
theorem dX6_readDifferences_93 : decode cX6_readDifferences 93 = .ok (.if_icmp .ge 12, 3) := by decide +kernel
theorem dX6_readDifferences_96 : decode cX6_readDifferences 96 = .ok (.iload 6, 2) := by decide +kernel
theorem dX6_readDifferences_98 : decode cX6_readDifferences 98 = .ok (.sipush 128, 3) := by decide +kernel
theorem dX6_readDifferences_101 : decode cX6_readDifferences 101 = .ok (.iadd, 1) := by decide +kernel
theorem dX6_readDifferences_102 : decode cX6_readDifferences 102 = .ok (.goto 4, 3) := by decide +kernel
theorem dX6_readDifferences_105 : decode cX6_readDifferences 105 = .ok (.iload_n 1, 1) := by decide +kernel
theorem dX6_readDifferences_106 : decode cX6_readDifferences 106 = .ok (.istore 7, 2) := by decide +kernel
theorem dX6_readDifferences_108 : decode cX6_readDifferences 108 = .ok (.aload_n 0, 1) := by decide +kernel
theorem dX6_readDifferences_109 : decode cX6_readDifferences 109 = .ok (.invokevirtual 209, 3) := by decide +kernel
theorem dX6_readDifferences_112 : decode cX6_readDifferences 112 = .ok (.lstore 8, 2) := by decide +kernel
theorem dX6_readDifferences_114 : decode cX6_readDifferences 114 = .ok (.iconst 0, 1) := by decide +kernel
theorem dX6_readDifferences_115 : decode cX6_readDifferences 115 = .ok (.istore 10, 2) := by decide +kernel
theorem dX6_readDifferences_117 : decode cX6_readDifferences 117 = .ok (.iload 10, 2) := by decide +kernel
theorem dX6_readDifferences_119 : decode cX6_readDifferences 119 = .ok (.iconst 4, 1) := by decide +kernel
theorem dX6_readDifferences_120 : decode cX6_readDifferences 120 = .ok (.if_icmp .ge 99, 3) := by decide +kernel
theorem dX6_readDifferences_123 : decode cX6_readDifferences 123 = .ok (.aload_n 0, 1) := by decide +kernel
theorem dX6_readDifferences_124 : decode cX6_readDifferences 124 = .ok (.getfield 169, 3) := by decide +kernel
theorem dX6_readDifferences_127 : decode cX6_readDifferences 127 = .ok (.ifCond .ne 92, 3) := by decide +kernel
theorem dX6_readDifferences_130 : decode cX6_readDifferences 130 = .ok (.aload_n 0, 1) := by decide +kernel
theorem dX6_readDifferences_131 : decode cX6_readDifferences 131 = .ok (.getfield 175, 3) := by decide +kernel
theorem dX6_readDifferences_134 : decode cX6_readDifferences 134 = .ok (.istore 11, 2) := by decide +kernel
theorem dX6_readDifferences_136 : decode cX6_readDifferences 136 = .ok (.aload_n 0, 1) := by decide +kernel
theorem dX6_readDifferences_137 : decode cX6_readDifferences 137 = .ok (.getfield 54, 3) := by decide +kernel
theorem dX6_readDifferences_140 : decode cX6_readDifferences 140 = .ok (.iload 10, 2) := by decide +kernel
theorem dX6_readDifferences_142 : decode cX6_readDifferences 142 = .ok (.aload_n 0, 1) := by decide +kernel
theorem dX6_readDifferences_143 : decode cX6_readDifferences 143 = .ok (.invokevirtual 184, 3) := by decide +kernel
theorem dX6_readDifferences_146 : decode cX6_readDifferences 146 = .ok (.iastore, 1) := by decide +kernel
theorem dX6_readDifferences_147 : decode cX6_readDifferences 147 = .ok (.iload 6, 2) := by decide +kernel
theorem dX6_readDifferences_149 : decode cX6_readDifferences 149 = .ok (.bipush 32, 2) := by decide +kernel
theorem dX6_readDifferences_151 : decode cX6_readDifferences 151 = .ok (.iload 10, 2) := by decide +kernel
theorem dX6_readDifferences_153 : decode cX6_readDifferences 153 = .ok (.imul, 1) := by decide +kernel
theorem dX6_readDifferences_154 : decode cX6_readDifferences 154 = .ok (.iadd, 1) := by decide +kernel
theorem dX6_readDifferences_155 : decode cX6_readDifferences 155 = .ok (.iload 7, 2) := by decide +kernel
theorem dX6_readDifferences_157 : decode cX6_readDifferences 157 = .ok (.if_icmp .ge 7, 3) := by decide +kernel
theorem dX6_readDifferences_160 : decode cX6_readDifferences 160 = .ok (.iconst 1, 1) := by decide +kernel
theorem dX6_readDifferences_161 : decode cX6_readDifferences 161 = .ok (.goto 4, 3) := by decide +kernel
theorem dX6_readDifferences_164 : decode cX6_readDifferences 164 = .ok (.iconst 0, 1) := by decide +kernel
theorem dX6_readDifferences_165 : decode cX6_readDifferences 165 = .ok (.istore 12, 2) := by decide +kernel
theorem dX6_readDifferences_167 : decode cX6_readDifferences 167 = .ok (.aload_n 0, 1) := by decide +kernel
theorem dX6_readDifferences_168 : decode cX6_readDifferences 168 = .ok (.getfield 169, 3) := by decide +kernel
theorem dX6_readDifferences_171 : decode cX6_readDifferences 171 = .ok (.ifCond .ne 42, 3) := by decide +kernel
theorem dX6_readDifferences_174 : decode cX6_readDifferences 174 = .ok (.aload_n 0, 1) := by decide +kernel
theorem dX6_readDifferences_175 : decode cX6_readDifferences 175 = .ok (.getfield 54, 3) := by decide +kernel
theorem dX6_readDifferences_178 : decode cX6_readDifferences 178 = .ok (.iload 10, 2) := by decide +kernel
theorem dX6_readDifferences_180 : decode cX6_readDifferences 180 = .ok (.iaload, 1) := by decide +kernel
theorem dX6_readDifferences_181 : decode cX6_readDifferences 181 = .ok (.iload 12, 2) := by decide +kernel
theorem dX6_readDifferences_183 : decode cX6_readDifferences 183 = .ok (.ifCond .eq 17, 3) := by decide +kernel
theorem dX6_readDifferences_186 : decode cX6_readDifferences 186 = .ok (.iload_n 2, 1) := by decide +kernel
theorem dX6_readDifferences_187 : decode cX6_readDifferences 187 = .ok (.ifCond .eq 8, 3) := by decide +kernel
theorem dX6_readDifferences_190 : decode cX6_readDifferences 190 = .ok (.bipush 32, 2) := by decide +kernel
theorem dX6_readDifferences_192 : decode cX6_readDifferences 192 = .ok (.goto 9, 3) := by decide +kernel
theorem dX6_readDifferences_195 : decode cX6_readDifferences 195 = .ok (.bipush 64, 2) := by decide +kernel
theorem dX6_readDifferences_197 : decode cX6_readDifferences 197 = .ok (.goto 4, 3) := by decide +kernel
theorem dX6_readDifferences_200 : decode cX6_readDifferences 200 = .ok (.iconst 0, 1) := by decide +kernel
theorem dX6_readDifferences_201 : decode cX6_readDifferences 201 = .ok (.if_icmp .le 12, 3) := by decide +kernel
theorem dX6_readDifferences_204 : decode cX6_readDifferences 204 = .ok (.aload_n 0, 1) := by decide +kernel
theorem dX6_readDifferences_205 : decode cX6_readDifferences 205 = .ok (.bipush 6, 2) := by decide +kernel
theorem dX6_readDifferences_207 : decode cX6_readDifferences 207 = .ok (.iload 11, 2) := by decide +kernel
theorem dX6_readDifferences_209 : decode cX6_readDifferences 209 = .ok (.invokevirtual 181, 3) := by decide +kernel
theorem dX6_readDifferences_212 : decode cX6_readDifferences 212 = .ok (.ireturn, 1) := by decide +kernel
theorem dX6_readDifferences_213 : decode cX6_readDifferences 213 = .ok (.iinc 10 1, 3) := by decide +kernel
theorem dX6_readDifferences_216 : decode cX6_readDifferences 216 = .ok (.goto (-99), 3) := by decide +kernel
theorem dX6_readDifferences_219 : decode cX6_readDifferences 219 = .ok (.iconst 0, 1) := by decide +kernel
theorem dX6_readDifferences_220 : decode cX6_readDifferences 220 = .ok (.istore 10, 2) := by decide +kernel
theorem dX6_readDifferences_222 : decode cX6_readDifferences 222 = .ok (.iload 10, 2) := by decide +kernel
theorem dX6_readDifferences_224 : decode cX6_readDifferences 224 = .ok (.iconst 4, 1) := by decide +kernel
theorem dX6_readDifferences_225 : decode cX6_readDifferences 225 = .ok (.if_icmp .ge 127, 3) := by decide +kernel
theorem dX6_readDifferences_228 : decode cX6_readDifferences 228 = .ok (.aload_n 0, 1) := by decide +kernel
theorem dX6_readDifferences_229 : decode cX6_readDifferences 229 = .ok (.getfield 169, 3) := by decide +kernel
theorem dX6_readDifferences_232 : decode cX6_readDifferences 232 = .ok (.ifCond .ne 120, 3) := by decide +kernel
theorem dX6_readDifferences_235 : decode cX6_readDifferences 235 = .ok (.aload_n 0, 1) := by decide +kernel
theorem dX6_readDifferences_236 : decode cX6_readDifferences 236 = .ok (.iconst 0, 1) := by decide +kernel
theorem dX6_readDifferences_237 : decode cX6_readDifferences 237 = .ok (.putfield 192, 3) := by decide +kernel
theorem dX6_readDifferences_240 : decode cX6_readDifferences 240 = .ok (.iload 6, 2) := by decide +kernel
theorem dX6_readDifferences_242 : decode cX6_readDifferences 242 = .ok (.bipush 32, 2) := by decide +kernel
theorem dX6_readDifferences_244 : decode cX6_readDifferences 244 = .ok (.iload 10, 2) := by decide +kernel
theorem dX6_readDifferences_246 : decode cX6_readDifferences 246 = .ok (.imul, 1) := by decide +kernel
theorem dX6_readDifferences_247 : decode cX6_readDifferences 247 = .ok (.iadd, 1) := by decide +kernel
theorem dX6_readDifferences_248 : decode cX6_readDifferences 248 = .ok (.istore 11, 2) := by decide +kernel
theorem dX6_readDifferences_250 : decode cX6_readDifferences 250 = .ok (.iload 11, 2) := by decide +kernel
theorem dX6_readDifferences_252 : decode cX6_readDifferences 252 = .ok (.iload 6, 2) := by decide +kernel
theorem dX6_readDifferences_254 : decode cX6_readDifferences 254 = .ok (.bipush 32, 2) := by decide +kernel
theorem dX6_readDifferences_256 : decode cX6_readDifferences 256 = .ok (.iload 10, 2) := by decide +kernel
theorem dX6_readDifferences_258 : decode cX6_readDifferences 258 = .ok (.imul, 1) := by decide +kernel
theorem dX6_readDifferences_259 : decode cX6_readDifferences 259 = .ok (.iadd, 1) := by decide +kernel
theorem dX6_readDifferences_260 : decode cX6_readDifferences 260 = .ok (.bipush 32, 2) := by decide +kernel
theorem dX6_readDifferences_262 : decode cX6_readDifferences 262 = .ok (.iadd, 1) := by decide +kernel
theorem dX6_readDifferences_263 : decode cX6_readDifferences 263 = .ok (.if_icmp .ge 83, 3) := by decide +kernel
theorem dX6_readDifferences_266 : decode cX6_readDifferences 266 = .ok (.iload 6, 2) := by decide +kernel
theorem dX6_readDifferences_268 : decode cX6_readDifferences 268 = .ok (.bipush 32, 2) := by decide +kernel
theorem dX6_readDifferences_270 : decode cX6_readDifferences 270 = .ok (.iload 10, 2) := by decide +kernel
theorem dX6_readDifferences_272 : decode cX6_readDifferences 272 = .ok (.imul, 1) := by decide +kernel
theorem dX6_readDifferences_273 : decode cX6_readDifferences 273 = .ok (.iadd, 1) := by decide +kernel
theorem dX6_readDifferences_274 : decode cX6_readDifferences 274 = .ok (.iload 7, 2) := by decide +kernel
theorem dX6_readDifferences_276 : decode cX6_readDifferences 276 = .ok (.if_icmp .ge 70, 3) := by decide +kernel
theorem dX6_readDifferences_279 : decode cX6_readDifferences 279 = .ok (.aload_n 0, 1) := by decide +kernel
theorem dX6_readDifferences_280 : decode cX6_readDifferences 280 = .ok (.getfield 169, 3) := by decide +kernel
theorem dX6_readDifferences_283 : decode cX6_readDifferences 283 = .ok (.ifCond .ne 63, 3) := by decide +kernel
theorem dX6_readDifferences_286 : decode cX6_readDifferences 286 = .ok (.aload_n 0, 1) := by decide +kernel
theorem dX6_readDifferences_287 : decode cX6_readDifferences 287 = .ok (.aload_n 0, 1) := by decide +kernel
theorem dX6_readDifferences_288 : decode cX6_readDifferences 288 = .ok (.getfield 54, 3) := by decide +kernel
theorem dX6_readDifferences_291 : decode cX6_readDifferences 291 = .ok (.iload 10, 2) := by decide +kernel
theorem dX6_readDifferences_293 : decode cX6_readDifferences 293 = .ok (.iaload, 1) := by decide +kernel
theorem dX6_readDifferences_294 : decode cX6_readDifferences 294 = .ok (.invokevirtual 198, 3) := by decide +kernel
theorem dX6_readDifferences_297 : decode cX6_readDifferences 297 = .ok (.lstore 12, 2) := by decide +kernel
theorem dX6_readDifferences_299 : decode cX6_readDifferences 299 = .ok (.iload 11, 2) := by decide +kernel
theorem dX6_readDifferences_301 : decode cX6_readDifferences 301 = .ok (.iload 7, 2) := by decide +kernel
theorem dX6_readDifferences_303 : decode cX6_readDifferences 303 = .ok (.if_icmp .ge 37, 3) := by decide +kernel
theorem dX6_readDifferences_306 : decode cX6_readDifferences 306 = .ok (.lload 4, 2) := by decide +kernel
theorem dX6_readDifferences_308 : decode cX6_readDifferences 308 = .ok (.lload 8, 2) := by decide +kernel
theorem dX6_readDifferences_310 : decode cX6_readDifferences 310 = .ok (.ladd, 1) := by decide +kernel
theorem dX6_readDifferences_311 : decode cX6_readDifferences 311 = .ok (.lload 12, 2) := by decide +kernel
theorem dX6_readDifferences_313 : decode cX6_readDifferences 313 = .ok (.ladd, 1) := by decide +kernel
theorem dX6_readDifferences_314 : decode cX6_readDifferences 314 = .ok (.lstore 4, 2) := by decide +kernel
theorem dX6_readDifferences_316 : decode cX6_readDifferences 316 = .ok (.iload_n 2, 1) := by decide +kernel
theorem dX6_readDifferences_317 : decode cX6_readDifferences 317 = .ok (.ifCond .eq 10, 3) := by decide +kernel
theorem dX6_readDifferences_320 : decode cX6_readDifferences 320 = .ok (.lload 4, 2) := by decide +kernel
theorem dX6_readDifferences_322 : decode cX6_readDifferences 322 = .ok (.l2i, 1) := by decide +kernel
theorem dX6_readDifferences_323 : decode cX6_readDifferences 323 = .ok (.i2l, 1) := by decide +kernel
theorem dX6_readDifferences_324 : decode cX6_readDifferences 324 = .ok (.goto 5, 3) := by decide +kernel
theorem dX6_readDifferences_327 : decode cX6_readDifferences 327 = .ok (.lload 4, 2) := by decide +kernel
theorem dX6_readDifferences_329 : decode cX6_readDifferences 329 = .ok (.lstore 4, 2) := by decide +kernel
theorem dX6_readDifferences_331 : decode cX6_readDifferences 331 = .ok (.aload_n 0, 1) := by decide +kernel
theorem dX6_readDifferences_332 : decode cX6_readDifferences 332 = .ok (.getfield 42, 3) := by decide +kernel
theorem dX6_readDifferences_335 : decode cX6_readDifferences 335 = .ok (.iload 11, 2) := by decide +kernel
theorem dX6_readDifferences_337 : decode cX6_readDifferences 337 = .ok (.lload 4, 2) := by decide +kernel
theorem dX6_readDifferences_339 : decode cX6_readDifferences 339 = .ok (.lastore, 1) := by decide +kernel
theorem dX6_readDifferences_340 : decode cX6_readDifferences 340 = .ok (.iinc 11 1, 3) := by decide +kernel
theorem dX6_readDifferences_343 : decode cX6_readDifferences 343 = .ok (.goto (-93), 3) := by decide +kernel
theorem dX6_readDifferences_346 : decode cX6_readDifferences 346 = .ok (.iinc 10 1, 3) := by decide +kernel
theorem dX6_readDifferences_349 : decode cX6_readDifferences 349 = .ok (.goto (-127), 3) := by decide +kernel
theorem dX6_readDifferences_352 : decode cX6_readDifferences 352 = .ok (.aload_n 0, 1) := by decide +kernel
theorem dX6_readDifferences_353 : decode cX6_readDifferences 353 = .ok (.getfield 169, 3) := by decide +kernel
theorem dX6_readDifferences_356 : decode cX6_readDifferences 356 = .ok (.ifCond .eq 5, 3) := by decide +kernel
theorem dX6_readDifferences_359 : decode cX6_readDifferences 359 = .ok (.iconst 0, 1) := by decide +kernel
theorem dX6_readDifferences_360 : decode cX6_readDifferences 360 = .ok (.ireturn, 1) := by decide +kernel
theorem dX6_readDifferences_361 : decode cX6_readDifferences 361 = .ok (.iinc 6 128, 6) := by decide +kernel
theorem dX6_readDifferences_367 : decode cX6_readDifferences 367 = .ok (.goto (-287), 3) := by decide +kernel
theorem dX6_readDifferences_370 : decode cX6_readDifferences 370 = .ok (.iconst 1, 1) := by decide +kernel
theorem dX6_readDifferences_371 : decode cX6_readDifferences 371 = .ok (.ireturn, 1) := by decide +kernel
theorem dX6_reads_0 : decode cX6_reads 0 = .ok (.aload_n 0, 1) := by decide +kernel
theorem dX6_reads_1 : decode cX6_reads 1 = .ok (.iload_n 1, 1) := by decide +kernel
theorem dX6_reads_2 : decode cX6_reads 2 = .ok (.iconst 1, 1) := by decide +kernel
theorem dX6_reads_3 : decode cX6_reads 3 = .ok (.lload_n 2, 1) := by decide +kernel
theorem dX6_reads_4 : decode cX6_reads 4 = .ok (.invokevirtual 70, 3) := by decide +kernel
theorem dX6_reads_7 : decode cX6_reads 7 = .ok (.istore 4, 2) := by decide +kernel
theorem dX6_reads_9 : decode cX6_reads 9 = .ok (.return_, 1) := by decide +kernel
theorem dX6_readLetters_0 : decode cX6_readLetters 0 = .ok (.aload_n 0, 1) := by decide +kernel
theorem dX6_readLetters_1 : decode cX6_readLetters 1 = .ok (.iload_n 1, 1) := by decide +kernel
theorem dX6_readLetters_2 : decode cX6_readLetters 2 = .ok (.iconst 1, 1) := by decide +kernel
theorem dX6_readLetters_3 : decode cX6_readLetters 3 = .ok (.iload_n 2, 1) := by decide +kernel
theorem dX6_readLetters_4 : decode cX6_readLetters 4 = .ok (.i2l, 1) := by decide +kernel
theorem dX6_readLetters_5 : decode cX6_readLetters 5 = .ok (.invokevirtual 70, 3) := by decide +kernel
theorem dX6_readLetters_8 : decode cX6_readLetters 8 = .ok (.istore_n 3, 1) := by decide +kernel
theorem dX6_readLetters_9 : decode cX6_readLetters 9 = .ok (.iconst 0, 1) := by decide +kernel
theorem dX6_readLetters_10 : decode cX6_readLetters 10 = .ok (.istore 4, 2) := by decide +kernel
theorem dX6_readLetters_12 : decode cX6_readLetters 12 = .ok (.iload 4, 2) := by decide +kernel
theorem dX6_readLetters_14 : decode cX6_readLetters 14 = .ok (.iload_n 2, 1) := by decide +kernel
theorem dX6_readLetters_15 : decode cX6_readLetters 15 = .ok (.if_icmp .ge 39, 3) := by decide +kernel
theorem dX6_readLetters_18 : decode cX6_readLetters 18 = .ok (.aload_n 0, 1) := by decide +kernel
theorem dX6_readLetters_19 : decode cX6_readLetters 19 = .ok (.getfield 169, 3) := by decide +kernel
theorem dX6_readLetters_22 : decode cX6_readLetters 22 = .ok (.ifCond .ne 32, 3) := by decide +kernel
theorem dX6_readLetters_25 : decode cX6_readLetters 25 = .ok (.aload_n 0, 1) := by decide +kernel
theorem dX6_readLetters_26 : decode cX6_readLetters 26 = .ok (.getfield 28, 3) := by decide +kernel
theorem dX6_readLetters_29 : decode cX6_readLetters 29 = .ok (.bipush 40, 2) := by decide +kernel
theorem dX6_readLetters_31 : decode cX6_readLetters 31 = .ok (.sipush 200, 3) := by decide +kernel
theorem dX6_readLetters_34 : decode cX6_readLetters 34 = .ok (.iload_n 1, 1) := by decide +kernel
theorem dX6_readLetters_35 : decode cX6_readLetters 35 = .ok (.imul, 1) := by decide +kernel
theorem dX6_readLetters_36 : decode cX6_readLetters 36 = .ok (.iload_n 3, 1) := by decide +kernel
theorem dX6_readLetters_37 : decode cX6_readLetters 37 = .ok (.iadd, 1) := by decide +kernel
theorem dX6_readLetters_38 : decode cX6_readLetters 38 = .ok (.imul, 1) := by decide +kernel
theorem dX6_readLetters_39 : decode cX6_readLetters 39 = .ok (.iload 4, 2) := by decide +kernel
theorem dX6_readLetters_41 : decode cX6_readLetters 41 = .ok (.iadd, 1) := by decide +kernel
theorem dX6_readLetters_42 : decode cX6_readLetters 42 = .ok (.aload_n 0, 1) := by decide +kernel
theorem dX6_readLetters_43 : decode cX6_readLetters 43 = .ok (.invokevirtual 184, 3) := by decide +kernel
theorem dX6_readLetters_46 : decode cX6_readLetters 46 = .ok (.i2b, 1) := by decide +kernel
theorem dX6_readLetters_47 : decode cX6_readLetters 47 = .ok (.bastore, 1) := by decide +kernel
theorem dX6_readLetters_48 : decode cX6_readLetters 48 = .ok (.iinc 4 1, 3) := by decide +kernel
theorem dX6_readLetters_51 : decode cX6_readLetters 51 = .ok (.goto (-39), 3) := by decide +kernel
theorem dX6_readLetters_54 : decode cX6_readLetters 54 = .ok (.aload_n 0, 1) := by decide +kernel
theorem dX6_readLetters_55 : decode cX6_readLetters 55 = .ok (.getfield 169, 3) := by decide +kernel
theorem dX6_readLetters_58 : decode cX6_readLetters 58 = .ok (.ifCond .ne 7, 3) := by decide +kernel
theorem dX6_readLetters_61 : decode cX6_readLetters 61 = .ok (.iconst 1, 1) := by decide +kernel
theorem dX6_readLetters_62 : decode cX6_readLetters 62 = .ok (.goto 4, 3) := by decide +kernel
theorem dX6_readLetters_65 : decode cX6_readLetters 65 = .ok (.iconst 0, 1) := by decide +kernel
theorem dX6_readLetters_66 : decode cX6_readLetters 66 = .ok (.ireturn, 1) := by decide +kernel
theorem dX6_readLength_0 : decode cX6_readLength 0 = .ok (.aload_n 0, 1) := by decide +kernel
theorem dX6_readLength_1 : decode cX6_readLength 1 = .ok (.getfield 175, 3) := by decide +kernel
theorem dX6_readLength_4 : decode cX6_readLength 4 = .ok (.istore_n 2, 1) := by decide +kernel
theorem dX6_readLength_5 : decode cX6_readLength 5 = .ok (.aload_n 0, 1) := by decide +kernel
theorem dX6_readLength_6 : decode cX6_readLength 6 = .ok (.iconst 4, 1) := by decide +kernel
theorem dX6_readLength_7 : decode cX6_readLength 7 = .ok (.invokevirtual 202, 3) := by decide +kernel
theorem dX6_readLength_10 : decode cX6_readLength 10 = .ok (.l2i, 1) := by decide +kernel
theorem dX6_readLength_11 : decode cX6_readLength 11 = .ok (.istore_n 3, 1) := by decide +kernel
theorem dX6_readLength_12 : decode cX6_readLength 12 = .ok (.aload_n 0, 1) := by decide +kernel
theorem dX6_readLength_13 : decode cX6_readLength 13 = .ok (.getfield 169, 3) := by decide +kernel
theorem dX6_readLength_16 : decode cX6_readLength 16 = .ok (.ifCond .eq 5, 3) := by decide +kernel
theorem dX6_readLength_19 : decode cX6_readLength 19 = .ok (.iconst (-1), 1) := by decide +kernel
theorem dX6_readLength_20 : decode cX6_readLength 20 = .ok (.ireturn, 1) := by decide +kernel
theorem dX6_readLength_21 : decode cX6_readLength 21 = .ok (.iload_n 3, 1) := by decide +kernel
theorem dX6_readLength_22 : decode cX6_readLength 22 = .ok (.ifCond .lt 21, 3) := by decide +kernel
theorem dX6_readLength_25 : decode cX6_readLength 25 = .ok (.iload_n 3, 1) := by decide +kernel
theorem dX6_readLength_26 : decode cX6_readLength 26 = .ok (.aload_n 0, 1) := by decide +kernel
theorem dX6_readLength_27 : decode cX6_readLength 27 = .ok (.getfield 178, 3) := by decide +kernel
theorem dX6_readLength_30 : decode cX6_readLength 30 = .ok (.aload_n 0, 1) := by decide +kernel
theorem dX6_readLength_31 : decode cX6_readLength 31 = .ok (.getfield 175, 3) := by decide +kernel
theorem dX6_readLength_34 : decode cX6_readLength 34 = .ok (.isub, 1) := by decide +kernel
theorem dX6_readLength_35 : decode cX6_readLength 35 = .ok (.if_icmp .gt 8, 3) := by decide +kernel
theorem dX6_readLength_38 : decode cX6_readLength 38 = .ok (.iload_n 3, 1) := by decide +kernel
theorem dX6_readLength_39 : decode cX6_readLength 39 = .ok (.iload_n 1, 1) := by decide +kernel
theorem dX6_readLength_40 : decode cX6_readLength 40 = .ok (.if_icmp .le 14, 3) := by decide +kernel
theorem dX6_readLength_43 : decode cX6_readLength 43 = .ok (.aload_n 0, 1) := by decide +kernel
theorem dX6_readLength_44 : decode cX6_readLength 44 = .ok (.bipush 10, 2) := by decide +kernel
theorem dX6_readLength_46 : decode cX6_readLength 46 = .ok (.iload_n 2, 1) := by decide +kernel
theorem dX6_readLength_47 : decode cX6_readLength 47 = .ok (.invokevirtual 181, 3) := by decide +kernel
theorem dX6_readLength_50 : decode cX6_readLength 50 = .ok (.istore 4, 2) := by decide +kernel
theorem dX6_readLength_52 : decode cX6_readLength 52 = .ok (.iconst (-1), 1) := by decide +kernel
theorem dX6_readLength_53 : decode cX6_readLength 53 = .ok (.ireturn, 1) := by decide +kernel
theorem dX6_readLength_54 : decode cX6_readLength 54 = .ok (.iload_n 3, 1) := by decide +kernel
theorem dX6_readLength_55 : decode cX6_readLength 55 = .ok (.ireturn, 1) := by decide +kernel
theorem dX6_readPlain_0 : decode cX6_readPlain 0 = .ok (.iload_n 2, 1) := by decide +kernel
theorem dX6_readPlain_1 : decode cX6_readPlain 1 = .ok (.iconst 2, 1) := by decide +kernel
theorem dX6_readPlain_2 : decode cX6_readPlain 2 = .ok (.if_icmp .ne 29, 3) := by decide +kernel
theorem dX6_readPlain_5 : decode cX6_readPlain 5 = .ok (.aload_n 0, 1) := by decide +kernel
theorem dX6_readPlain_6 : decode cX6_readPlain 6 = .ok (.bipush 40, 2) := by decide +kernel
theorem dX6_readPlain_8 : decode cX6_readPlain 8 = .ok (.invokevirtual 212, 3) := by decide +kernel
theorem dX6_readPlain_11 : decode cX6_readPlain 11 = .ok (.istore_n 3, 1) := by decide +kernel
theorem dX6_readPlain_12 : decode cX6_readPlain 12 = .ok (.iload_n 3, 1) := by decide +kernel
theorem dX6_readPlain_13 : decode cX6_readPlain 13 = .ok (.ifCond .lt 16, 3) := by decide +kernel
theorem dX6_readPlain_16 : decode cX6_readPlain 16 = .ok (.aload_n 0, 1) := by decide +kernel
theorem dX6_readPlain_17 : decode cX6_readPlain 17 = .ok (.iload_n 1, 1) := by decide +kernel
theorem dX6_readPlain_18 : decode cX6_readPlain 18 = .ok (.iload_n 3, 1) := by decide +kernel
theorem dX6_readPlain_19 : decode cX6_readPlain 19 = .ok (.invokevirtual 216, 3) := by decide +kernel
theorem dX6_readPlain_22 : decode cX6_readPlain 22 = .ok (.ifCond .eq 7, 3) := by decide +kernel
theorem dX6_readPlain_25 : decode cX6_readPlain 25 = .ok (.iconst 1, 1) := by decide +kernel
theorem dX6_readPlain_26 : decode cX6_readPlain 26 = .ok (.goto 4, 3) := by decide +kernel
theorem dX6_readPlain_29 : decode cX6_readPlain 29 = .ok (.iconst 0, 1) := by decide +kernel
theorem dX6_readPlain_30 : decode cX6_readPlain 30 = .ok (.ireturn, 1) := by decide +kernel
theorem dX6_readPlain_31 : decode cX6_readPlain 31 = .ok (.aload_n 0, 1) := by decide +kernel
theorem dX6_readPlain_32 : decode cX6_readPlain 32 = .ok (.iload_n 2, 1) := by decide +kernel
theorem dX6_readPlain_33 : decode cX6_readPlain 33 = .ok (.ifCond .ne 7, 3) := by decide +kernel
theorem dX6_readPlain_36 : decode cX6_readPlain 36 = .ok (.iconst 4, 1) := by decide +kernel
theorem dX6_readPlain_37 : decode cX6_readPlain 37 = .ok (.goto 5, 3) := by decide +kernel
theorem dX6_readPlain_40 : decode cX6_readPlain 40 = .ok (.bipush 8, 2) := by decide +kernel
theorem dX6_readPlain_42 : decode cX6_readPlain 42 = .ok (.invokevirtual 202, 3) := by decide +kernel
theorem dX6_readPlain_45 : decode cX6_readPlain 45 = .ok (.lstore_n 3, 1) := by decide +kernel
theorem dX6_readPlain_46 : decode cX6_readPlain 46 = .ok (.aload_n 0, 1) := by decide +kernel
theorem dX6_readPlain_47 : decode cX6_readPlain 47 = .ok (.getfield 169, 3) := by decide +kernel
theorem dX6_readPlain_50 : decode cX6_readPlain 50 = .ok (.ifCond .eq 5, 3) := by decide +kernel
theorem dX6_readPlain_53 : decode cX6_readPlain 53 = .ok (.iconst 0, 1) := by decide +kernel
theorem dX6_readPlain_54 : decode cX6_readPlain 54 = .ok (.ireturn, 1) := by decide +kernel
theorem dX6_readPlain_55 : decode cX6_readPlain 55 = .ok (.aload_n 0, 1) := by decide +kernel
theorem dX6_readPlain_56 : decode cX6_readPlain 56 = .ok (.iload_n 1, 1) := by decide +kernel
theorem dX6_readPlain_57 : decode cX6_readPlain 57 = .ok (.iload_n 2, 1) := by decide +kernel
theorem dX6_readPlain_58 : decode cX6_readPlain 58 = .ok (.ifCond .ne 9, 3) := by decide +kernel
theorem dX6_readPlain_61 : decode cX6_readPlain 61 = .ok (.lload_n 3, 1) := by decide +kernel
theorem dX6_readPlain_62 : decode cX6_readPlain 62 = .ok (.l2i, 1) := by decide +kernel
theorem dX6_readPlain_63 : decode cX6_readPlain 63 = .ok (.i2l, 1) := by decide +kernel
theorem dX6_readPlain_64 : decode cX6_readPlain 64 = .ok (.goto 4, 3) := by decide +kernel
theorem dX6_readPlain_67 : decode cX6_readPlain 67 = .ok (.lload_n 3, 1) := by decide +kernel
theorem dX6_readPlain_68 : decode cX6_readPlain 68 = .ok (.invokevirtual 219, 3) := by decide +kernel
theorem dX6_readPlain_71 : decode cX6_readPlain 71 = .ok (.iconst 1, 1) := by decide +kernel
theorem dX6_readPlain_72 : decode cX6_readPlain 72 = .ok (.ireturn, 1) := by decide +kernel
theorem dX6_field_0 : decode cX6_field 0 = .ok (.aload_n 0, 1) := by decide +kernel
theorem dX6_field_1 : decode cX6_field 1 = .ok (.getfield 175, 3) := by decide +kernel
theorem dX6_field_4 : decode cX6_field 4 = .ok (.istore_n 2, 1) := by decide +kernel
theorem dX6_field_5 : decode cX6_field 5 = .ok (.aload_n 0, 1) := by decide +kernel
theorem dX6_field_6 : decode cX6_field 6 = .ok (.invokevirtual 184, 3) := by decide +kernel
theorem dX6_field_9 : decode cX6_field 9 = .ok (.istore_n 3, 1) := by decide +kernel
theorem dX6_field_10 : decode cX6_field 10 = .ok (.aload_n 0, 1) := by decide +kernel
theorem dX6_field_11 : decode cX6_field 11 = .ok (.getfield 169, 3) := by decide +kernel
theorem dX6_field_14 : decode cX6_field 14 = .ok (.ifCond .ne 22, 3) := by decide +kernel
theorem dX6_field_17 : decode cX6_field 17 = .ok (.iload_n 3, 1) := by decide +kernel
theorem dX6_field_18 : decode cX6_field 18 = .ok (.iload_n 1, 1) := by decide +kernel
theorem dX6_field_19 : decode cX6_field 19 = .ok (.if_icmp .eq 13, 3) := by decide +kernel
theorem dX6_field_22 : decode cX6_field 22 = .ok (.aload_n 0, 1) := by decide +kernel
theorem dX6_field_23 : decode cX6_field 23 = .ok (.bipush 7, 2) := by decide +kernel
theorem dX6_field_25 : decode cX6_field 25 = .ok (.iload_n 2, 1) := by decide +kernel
theorem dX6_field_26 : decode cX6_field 26 = .ok (.invokevirtual 181, 3) := by decide +kernel
theorem dX6_field_29 : decode cX6_field 29 = .ok (.ifCond .eq 7, 3) := by decide +kernel
theorem dX6_field_32 : decode cX6_field 32 = .ok (.iconst 1, 1) := by decide +kernel
theorem dX6_field_33 : decode cX6_field 33 = .ok (.goto 4, 3) := by decide +kernel
theorem dX6_field_36 : decode cX6_field 36 = .ok (.iconst 0, 1) := by decide +kernel
theorem dX6_field_37 : decode cX6_field 37 = .ok (.ireturn, 1) := by decide +kernel
theorem dX6_fieldZig_0 : decode cX6_fieldZig 0 = .ok (.aload_n 0, 1) := by decide +kernel
theorem dX6_fieldZig_1 : decode cX6_fieldZig 1 = .ok (.aload_n 0, 1) := by decide +kernel
theorem dX6_fieldZig_2 : decode cX6_fieldZig 2 = .ok (.getfield 175, 3) := by decide +kernel
theorem dX6_fieldZig_5 : decode cX6_fieldZig 5 = .ok (.putfield 223, 3) := by decide +kernel
theorem dX6_fieldZig_8 : decode cX6_fieldZig 8 = .ok (.aload_n 0, 1) := by decide +kernel
theorem dX6_fieldZig_9 : decode cX6_fieldZig 9 = .ok (.invokevirtual 209, 3) := by decide +kernel
theorem dX6_fieldZig_12 : decode cX6_fieldZig 12 = .ok (.lreturn, 1) := by decide +kernel
theorem dX6_readHead_0 : decode cX6_readHead 0 = .ok (.aload_n 0, 1) := by decide +kernel
theorem dX6_readHead_1 : decode cX6_readHead 1 = .ok (.getfield 175, 3) := by decide +kernel
theorem dX6_readHead_4 : decode cX6_readHead 4 = .ok (.istore_n 2, 1) := by decide +kernel
theorem dX6_readHead_5 : decode cX6_readHead 5 = .ok (.aload_n 0, 1) := by decide +kernel
theorem dX6_readHead_6 : decode cX6_readHead 6 = .ok (.aload_n 0, 1) := by decide +kernel
theorem dX6_readHead_7 : decode cX6_readHead 7 = .ok (.getfield 166, 3) := by decide +kernel
theorem dX6_readHead_10 : decode cX6_readHead 10 = .ok (.putfield 178, 3) := by decide +kernel
theorem dX6_readHead_13 : decode cX6_readHead 13 = .ok (.aload_n 0, 1) := by decide +kernel
theorem dX6_readHead_14 : decode cX6_readHead 14 = .ok (.bipush 21, 2) := by decide +kernel
theorem dX6_readHead_16 : decode cX6_readHead 16 = .ok (.invokevirtual 226, 3) := by decide +kernel
theorem dX6_readHead_19 : decode cX6_readHead 19 = .ok (.ifCond .ne 5, 3) := by decide +kernel
theorem dX6_readHead_22 : decode cX6_readHead 22 = .ok (.iconst 0, 1) := by decide +kernel
theorem dX6_readHead_23 : decode cX6_readHead 23 = .ok (.ireturn, 1) := by decide +kernel
theorem dX6_readHead_24 : decode cX6_readHead 24 = .ok (.aload_n 0, 1) := by decide +kernel
theorem dX6_readHead_25 : decode cX6_readHead 25 = .ok (.invokevirtual 229, 3) := by decide +kernel
theorem dX6_readHead_28 : decode cX6_readHead 28 = .ok (.lstore_n 3, 1) := by decide +kernel
theorem dX6_readHead_29 : decode cX6_readHead 29 = .ok (.aload_n 0, 1) := by decide +kernel
theorem dX6_readHead_30 : decode cX6_readHead 30 = .ok (.getfield 169, 3) := by decide +kernel
theorem dX6_readHead_33 : decode cX6_readHead 33 = .ok (.ifCond .eq 5, 3) := by decide +kernel
theorem dX6_readHead_36 : decode cX6_readHead 36 = .ok (.iconst 0, 1) := by decide +kernel
theorem dX6_readHead_37 : decode cX6_readHead 37 = .ok (.ireturn, 1) := by decide +kernel
theorem dX6_readHead_38 : decode cX6_readHead 38 = .ok (.lload_n 3, 1) := by decide +kernel
theorem dX6_readHead_39 : decode cX6_readHead 39 = .ok (.lconst 0, 1) := by decide +kernel
theorem dX6_readHead_40 : decode cX6_readHead 40 = .ok (.lcmp, 1) := by decide +kernel
theorem dX6_readHead_41 : decode cX6_readHead 41 = .ok (.ifCond .eq 27, 3) := by decide +kernel
theorem dX6_readHead_44 : decode cX6_readHead 44 = .ok (.lload_n 3, 1) := by decide +kernel
theorem dX6_readHead_45 : decode cX6_readHead 45 = .ok (.ldc2_w 114, 3) := by decide +kernel
theorem dX6_readHead_48 : decode cX6_readHead 48 = .ok (.lcmp, 1) := by decide +kernel
theorem dX6_readHead_49 : decode cX6_readHead 49 = .ok (.ifCond .ne 8, 3) := by decide +kernel
theorem dX6_readHead_52 : decode cX6_readHead 52 = .ok (.iload_n 1, 1) := by decide +kernel
theorem dX6_readHead_53 : decode cX6_readHead 53 = .ok (.iconst 3, 1) := by decide +kernel
theorem dX6_readHead_54 : decode cX6_readHead 54 = .ok (.if_icmp .ne 14, 3) := by decide +kernel
theorem dX6_readHead_57 : decode cX6_readHead 57 = .ok (.aload_n 0, 1) := by decide +kernel
theorem dX6_readHead_58 : decode cX6_readHead 58 = .ok (.bipush 8, 2) := by decide +kernel
theorem dX6_readHead_60 : decode cX6_readHead 60 = .ok (.aload_n 0, 1) := by decide +kernel
theorem dX6_readHead_61 : decode cX6_readHead 61 = .ok (.getfield 223, 3) := by decide +kernel
theorem dX6_readHead_64 : decode cX6_readHead 64 = .ok (.invokevirtual 181, 3) := by decide +kernel
theorem dX6_readHead_67 : decode cX6_readHead 67 = .ok (.ireturn, 1) := by decide +kernel
theorem dX6_readHead_68 : decode cX6_readHead 68 = .ok (.aload_n 0, 1) := by decide +kernel
theorem dX6_readHead_69 : decode cX6_readHead 69 = .ok (.lload_n 3, 1) := by decide +kernel
theorem dX6_readHead_70 : decode cX6_readHead 70 = .ok (.l2i, 1) := by decide +kernel
theorem dX6_readHead_71 : decode cX6_readHead 71 = .ok (.putfield 232, 3) := by decide +kernel
theorem dX6_readHead_74 : decode cX6_readHead 74 = .ok (.aload_n 0, 1) := by decide +kernel
theorem dX6_readHead_75 : decode cX6_readHead 75 = .ok (.getfield 232, 3) := by decide +kernel
theorem dX6_readHead_78 : decode cX6_readHead 78 = .ok (.iconst 2, 1) := by decide +kernel
theorem dX6_readHead_79 : decode cX6_readHead 79 = .ok (.if_icmp .ne 15, 3) := by decide +kernel
theorem dX6_readHead_82 : decode cX6_readHead 82 = .ok (.iload_n 2, 1) := by decide +kernel
theorem dX6_readHead_83 : decode cX6_readHead 83 = .ok (.ifCond .le 11, 3) := by decide +kernel
theorem dX6_readHead_86 : decode cX6_readHead 86 = .ok (.aload_n 0, 1) := by decide +kernel
theorem dX6_readHead_87 : decode cX6_readHead 87 = .ok (.bipush 9, 2) := by decide +kernel
theorem dX6_readHead_89 : decode cX6_readHead 89 = .ok (.iload_n 2, 1) := by decide +kernel
theorem dX6_readHead_90 : decode cX6_readHead 90 = .ok (.invokevirtual 181, 3) := by decide +kernel
theorem dX6_readHead_93 : decode cX6_readHead 93 = .ok (.ireturn, 1) := by decide +kernel
theorem dX6_readHead_94 : decode cX6_readHead 94 = .ok (.aload_n 0, 1) := by decide +kernel
theorem dX6_readHead_95 : decode cX6_readHead 95 = .ok (.bipush 21, 2) := by decide +kernel
theorem dX6_readHead_97 : decode cX6_readHead 97 = .ok (.invokevirtual 226, 3) := by decide +kernel
theorem dX6_readHead_100 : decode cX6_readHead 100 = .ok (.ifCond .ne 5, 3) := by decide +kernel
theorem dX6_readHead_103 : decode cX6_readHead 103 = .ok (.iconst 0, 1) := by decide +kernel
theorem dX6_readHead_104 : decode cX6_readHead 104 = .ok (.ireturn, 1) := by decide +kernel
theorem dX6_readHead_105 : decode cX6_readHead 105 = .ok (.aload_n 0, 1) := by decide +kernel
theorem dX6_readHead_106 : decode cX6_readHead 106 = .ok (.invokevirtual 229, 3) := by decide +kernel
theorem dX6_readHead_109 : decode cX6_readHead 109 = .ok (.lstore_n 3, 1) := by decide +kernel
theorem dX6_readHead_110 : decode cX6_readHead 110 = .ok (.aload_n 0, 1) := by decide +kernel
theorem dX6_readHead_111 : decode cX6_readHead 111 = .ok (.getfield 169, 3) := by decide +kernel
theorem dX6_readHead_114 : decode cX6_readHead 114 = .ok (.ifCond .eq 5, 3) := by decide +kernel
theorem dX6_readHead_117 : decode cX6_readHead 117 = .ok (.iconst 0, 1) := by decide +kernel
theorem dX6_readHead_118 : decode cX6_readHead 118 = .ok (.ireturn, 1) := by decide +kernel
theorem dX6_readHead_119 : decode cX6_readHead 119 = .ok (.lload_n 3, 1) := by decide +kernel
theorem dX6_readHead_120 : decode cX6_readHead 120 = .ok (.lconst 0, 1) := by decide +kernel
theorem dX6_readHead_121 : decode cX6_readHead 121 = .ok (.lcmp, 1) := by decide +kernel
theorem dX6_readHead_122 : decode cX6_readHead 122 = .ok (.ifCond .lt 18, 3) := by decide +kernel
theorem dX6_readHead_125 : decode cX6_readHead 125 = .ok (.lload_n 3, 1) := by decide +kernel
theorem dX6_readHead_126 : decode cX6_readHead 126 = .ok (.aload_n 0, 1) := by decide +kernel
theorem dX6_readHead_127 : decode cX6_readHead 127 = .ok (.getfield 166, 3) := by decide +kernel
theorem dX6_readHead_130 : decode cX6_readHead 130 = .ok (.aload_n 0, 1) := by decide +kernel
theorem dX6_readHead_131 : decode cX6_readHead 131 = .ok (.getfield 175, 3) := by decide +kernel
theorem dX6_readHead_134 : decode cX6_readHead 134 = .ok (.isub, 1) := by decide +kernel
theorem dX6_readHead_135 : decode cX6_readHead 135 = .ok (.i2l, 1) := by decide +kernel
theorem dX6_readHead_136 : decode cX6_readHead 136 = .ok (.lcmp, 1) := by decide +kernel
theorem dX6_readHead_137 : decode cX6_readHead 137 = .ok (.ifCond .le 14, 3) := by decide +kernel
theorem dX6_readHead_140 : decode cX6_readHead 140 = .ok (.aload_n 0, 1) := by decide +kernel
theorem dX6_readHead_141 : decode cX6_readHead 141 = .ok (.bipush 8, 2) := by decide +kernel
theorem dX6_readHead_143 : decode cX6_readHead 143 = .ok (.aload_n 0, 1) := by decide +kernel
theorem dX6_readHead_144 : decode cX6_readHead 144 = .ok (.getfield 223, 3) := by decide +kernel
theorem dX6_readHead_147 : decode cX6_readHead 147 = .ok (.invokevirtual 181, 3) := by decide +kernel
theorem dX6_readHead_150 : decode cX6_readHead 150 = .ok (.ireturn, 1) := by decide +kernel
theorem dX6_readHead_151 : decode cX6_readHead 151 = .ok (.aload_n 0, 1) := by decide +kernel
theorem dX6_readHead_152 : decode cX6_readHead 152 = .ok (.lload_n 3, 1) := by decide +kernel
theorem dX6_readHead_153 : decode cX6_readHead 153 = .ok (.l2i, 1) := by decide +kernel
theorem dX6_readHead_154 : decode cX6_readHead 154 = .ok (.putfield 235, 3) := by decide +kernel
theorem dX6_readHead_157 : decode cX6_readHead 157 = .ok (.aload_n 0, 1) := by decide +kernel
theorem dX6_readHead_158 : decode cX6_readHead 158 = .ok (.bipush 21, 2) := by decide +kernel
theorem dX6_readHead_160 : decode cX6_readHead 160 = .ok (.invokevirtual 226, 3) := by decide +kernel
theorem dX6_readHead_163 : decode cX6_readHead 163 = .ok (.ifCond .ne 5, 3) := by decide +kernel
theorem dX6_readHead_166 : decode cX6_readHead 166 = .ok (.iconst 0, 1) := by decide +kernel
theorem dX6_readHead_167 : decode cX6_readHead 167 = .ok (.ireturn, 1) := by decide +kernel
theorem dX6_readHead_168 : decode cX6_readHead 168 = .ok (.aload_n 0, 1) := by decide +kernel
theorem dX6_readHead_169 : decode cX6_readHead 169 = .ok (.invokevirtual 229, 3) := by decide +kernel
theorem dX6_readHead_172 : decode cX6_readHead 172 = .ok (.lstore_n 3, 1) := by decide +kernel
theorem dX6_readHead_173 : decode cX6_readHead 173 = .ok (.aload_n 0, 1) := by decide +kernel
theorem dX6_readHead_174 : decode cX6_readHead 174 = .ok (.getfield 169, 3) := by decide +kernel
theorem dX6_readHead_177 : decode cX6_readHead 177 = .ok (.ifCond .eq 5, 3) := by decide +kernel
theorem dX6_readHead_180 : decode cX6_readHead 180 = .ok (.iconst 0, 1) := by decide +kernel
theorem dX6_readHead_181 : decode cX6_readHead 181 = .ok (.ireturn, 1) := by decide +kernel
theorem dX6_readHead_182 : decode cX6_readHead 182 = .ok (.lload_n 3, 1) := by decide +kernel
theorem dX6_readHead_183 : decode cX6_readHead 183 = .ok (.aload_n 0, 1) := by decide +kernel
theorem dX6_readHead_184 : decode cX6_readHead 184 = .ok (.getfield 235, 3) := by decide +kernel
theorem dX6_readHead_187 : decode cX6_readHead 187 = .ok (.i2l, 1) := by decide +kernel
theorem dX6_readHead_188 : decode cX6_readHead 188 = .ok (.lcmp, 1) := by decide +kernel
theorem dX6_readHead_189 : decode cX6_readHead 189 = .ok (.ifCond .eq 14, 3) := by decide +kernel
theorem dX6_readHead_192 : decode cX6_readHead 192 = .ok (.aload_n 0, 1) := by decide +kernel
theorem dX6_readHead_193 : decode cX6_readHead 193 = .ok (.bipush 8, 2) := by decide +kernel
theorem dX6_readHead_195 : decode cX6_readHead 195 = .ok (.aload_n 0, 1) := by decide +kernel
theorem dX6_readHead_196 : decode cX6_readHead 196 = .ok (.getfield 223, 3) := by decide +kernel
theorem dX6_readHead_199 : decode cX6_readHead 199 = .ok (.invokevirtual 181, 3) := by decide +kernel
theorem dX6_readHead_202 : decode cX6_readHead 202 = .ok (.ireturn, 1) := by decide +kernel
theorem dX6_readHead_203 : decode cX6_readHead 203 = .ok (.aload_n 0, 1) := by decide +kernel
theorem dX6_readHead_204 : decode cX6_readHead 204 = .ok (.aload_n 0, 1) := by decide +kernel
theorem dX6_readHead_205 : decode cX6_readHead 205 = .ok (.getfield 232, 3) := by decide +kernel
theorem dX6_readHead_208 : decode cX6_readHead 208 = .ok (.ifCond .ne 8, 3) := by decide +kernel
theorem dX6_readHead_211 : decode cX6_readHead 211 = .ok (.bipush 44, 2) := by decide +kernel
theorem dX6_readHead_213 : decode cX6_readHead 213 = .ok (.goto 5, 3) := by decide +kernel
theorem dX6_readHead_216 : decode cX6_readHead 216 = .ok (.bipush 76, 2) := by decide +kernel
theorem dX6_readHead_218 : decode cX6_readHead 218 = .ok (.invokevirtual 226, 3) := by decide +kernel
theorem dX6_readHead_221 : decode cX6_readHead 221 = .ok (.ifCond .eq 31, 3) := by decide +kernel
theorem dX6_readHead_224 : decode cX6_readHead 224 = .ok (.aload_n 0, 1) := by decide +kernel
theorem dX6_readHead_225 : decode cX6_readHead 225 = .ok (.iload_n 1, 1) := by decide +kernel
theorem dX6_readHead_226 : decode cX6_readHead 226 = .ok (.invokevirtual 238, 3) := by decide +kernel
theorem dX6_readHead_229 : decode cX6_readHead 229 = .ok (.ifCond .eq 23, 3) := by decide +kernel
theorem dX6_readHead_232 : decode cX6_readHead 232 = .ok (.aload_n 0, 1) := by decide +kernel
theorem dX6_readHead_233 : decode cX6_readHead 233 = .ok (.iconst 0, 1) := by decide +kernel
theorem dX6_readHead_234 : decode cX6_readHead 234 = .ok (.invokevirtual 226, 3) := by decide +kernel
theorem dX6_readHead_237 : decode cX6_readHead 237 = .ok (.ifCond .eq 15, 3) := by decide +kernel
theorem dX6_readHead_240 : decode cX6_readHead 240 = .ok (.aload_n 0, 1) := by decide +kernel
theorem dX6_readHead_241 : decode cX6_readHead 241 = .ok (.iconst 0, 1) := by decide +kernel
theorem dX6_readHead_242 : decode cX6_readHead 242 = .ok (.invokevirtual 226, 3) := by decide +kernel
theorem dX6_readHead_245 : decode cX6_readHead 245 = .ok (.ifCond .eq 7, 3) := by decide +kernel
theorem dX6_readHead_248 : decode cX6_readHead 248 = .ok (.iconst 1, 1) := by decide +kernel
theorem dX6_readHead_249 : decode cX6_readHead 249 = .ok (.goto 4, 3) := by decide +kernel
theorem dX6_readHead_252 : decode cX6_readHead 252 = .ok (.iconst 0, 1) := by decide +kernel
theorem dX6_readHead_253 : decode cX6_readHead 253 = .ok (.ireturn, 1) := by decide +kernel
theorem dX6_readInner_0 : decode cX6_readInner 0 = .ok (.aload_n 0, 1) := by decide +kernel
theorem dX6_readInner_1 : decode cX6_readInner 1 = .ok (.bipush 21, 2) := by decide +kernel
theorem dX6_readInner_3 : decode cX6_readInner 3 = .ok (.invokevirtual 226, 3) := by decide +kernel
theorem dX6_readInner_6 : decode cX6_readInner 6 = .ok (.ifCond .ne 5, 3) := by decide +kernel
theorem dX6_readInner_9 : decode cX6_readInner 9 = .ok (.iconst 0, 1) := by decide +kernel
theorem dX6_readInner_10 : decode cX6_readInner 10 = .ok (.ireturn, 1) := by decide +kernel
theorem dX6_readInner_11 : decode cX6_readInner 11 = .ok (.aload_n 0, 1) := by decide +kernel
theorem dX6_readInner_12 : decode cX6_readInner 12 = .ok (.invokevirtual 229, 3) := by decide +kernel
theorem dX6_readInner_15 : decode cX6_readInner 15 = .ok (.lstore_n 2, 1) := by decide +kernel
theorem dX6_readInner_16 : decode cX6_readInner 16 = .ok (.aload_n 0, 1) := by decide +kernel
theorem dX6_readInner_17 : decode cX6_readInner 17 = .ok (.getfield 169, 3) := by decide +kernel
theorem dX6_readInner_20 : decode cX6_readInner 20 = .ok (.ifCond .eq 5, 3) := by decide +kernel
theorem dX6_readInner_23 : decode cX6_readInner 23 = .ok (.iconst 0, 1) := by decide +kernel
theorem dX6_readInner_24 : decode cX6_readInner 24 = .ok (.ireturn, 1) := by decide +kernel
theorem dX6_readInner_25 : decode cX6_readInner 25 = .ok (.lload_n 2, 1) := by decide +kernel
theorem dX6_readInner_26 : decode cX6_readInner 26 = .ok (.lconst 0, 1) := by decide +kernel
theorem dX6_readInner_27 : decode cX6_readInner 27 = .ok (.lcmp, 1) := by decide +kernel
theorem dX6_readInner_28 : decode cX6_readInner 28 = .ok (.ifCond .lt 34, 3) := by decide +kernel
theorem dX6_readInner_31 : decode cX6_readInner 31 = .ok (.lload_n 2, 1) := by decide +kernel
theorem dX6_readInner_32 : decode cX6_readInner 32 = .ok (.ldc2_w 80, 3) := by decide +kernel
theorem dX6_readInner_35 : decode cX6_readInner 35 = .ok (.lcmp, 1) := by decide +kernel
theorem dX6_readInner_36 : decode cX6_readInner 36 = .ok (.ifCond .gt 26, 3) := by decide +kernel
theorem dX6_readInner_39 : decode cX6_readInner 39 = .ok (.aload_n 0, 1) := by decide +kernel
theorem dX6_readInner_40 : decode cX6_readInner 40 = .ok (.getfield 232, 3) := by decide +kernel
theorem dX6_readInner_43 : decode cX6_readInner 43 = .ok (.ifCond .ne 30, 3) := by decide +kernel
theorem dX6_readInner_46 : decode cX6_readInner 46 = .ok (.lload_n 2, 1) := by decide +kernel
theorem dX6_readInner_47 : decode cX6_readInner 47 = .ok (.aload_n 0, 1) := by decide +kernel
theorem dX6_readInner_48 : decode cX6_readInner 48 = .ok (.getfield 17, 3) := by decide +kernel
theorem dX6_readInner_51 : decode cX6_readInner 51 = .ok (.iconst 4, 1) := by decide +kernel
theorem dX6_readInner_52 : decode cX6_readInner 52 = .ok (.iaload, 1) := by decide +kernel
theorem dX6_readInner_53 : decode cX6_readInner 53 = .ok (.i2l, 1) := by decide +kernel
theorem dX6_readInner_54 : decode cX6_readInner 54 = .ok (.ladd, 1) := by decide +kernel
theorem dX6_readInner_55 : decode cX6_readInner 55 = .ok (.ldc2_w 80, 3) := by decide +kernel
theorem dX6_readInner_58 : decode cX6_readInner 58 = .ok (.lcmp, 1) := by decide +kernel
theorem dX6_readInner_59 : decode cX6_readInner 59 = .ok (.ifCond .le 14, 3) := by decide +kernel
theorem dX6_readInner_62 : decode cX6_readInner 62 = .ok (.aload_n 0, 1) := by decide +kernel
theorem dX6_readInner_63 : decode cX6_readInner 63 = .ok (.bipush 8, 2) := by decide +kernel
theorem dX6_readInner_65 : decode cX6_readInner 65 = .ok (.aload_n 0, 1) := by decide +kernel
theorem dX6_readInner_66 : decode cX6_readInner 66 = .ok (.getfield 223, 3) := by decide +kernel
theorem dX6_readInner_69 : decode cX6_readInner 69 = .ok (.invokevirtual 181, 3) := by decide +kernel
theorem dX6_readInner_72 : decode cX6_readInner 72 = .ok (.ireturn, 1) := by decide +kernel
theorem dX6_readInner_73 : decode cX6_readInner 73 = .ok (.aload_n 0, 1) := by decide +kernel
theorem dX6_readInner_74 : decode cX6_readInner 74 = .ok (.lload_n 2, 1) := by decide +kernel
theorem dX6_readInner_75 : decode cX6_readInner 75 = .ok (.l2i, 1) := by decide +kernel
theorem dX6_readInner_76 : decode cX6_readInner 76 = .ok (.putfield 241, 3) := by decide +kernel
theorem dX6_readInner_79 : decode cX6_readInner 79 = .ok (.aload_n 0, 1) := by decide +kernel
theorem dX6_readInner_80 : decode cX6_readInner 80 = .ok (.bipush 21, 2) := by decide +kernel
theorem dX6_readInner_82 : decode cX6_readInner 82 = .ok (.invokevirtual 226, 3) := by decide +kernel
theorem dX6_readInner_85 : decode cX6_readInner 85 = .ok (.ifCond .ne 5, 3) := by decide +kernel
theorem dX6_readInner_88 : decode cX6_readInner 88 = .ok (.iconst 0, 1) := by decide +kernel
theorem dX6_readInner_89 : decode cX6_readInner 89 = .ok (.ireturn, 1) := by decide +kernel
theorem dX6_readInner_90 : decode cX6_readInner 90 = .ok (.aload_n 0, 1) := by decide +kernel
theorem dX6_readInner_91 : decode cX6_readInner 91 = .ok (.invokevirtual 229, 3) := by decide +kernel
theorem dX6_readInner_94 : decode cX6_readInner 94 = .ok (.lstore_n 2, 1) := by decide +kernel
theorem dX6_readInner_95 : decode cX6_readInner 95 = .ok (.aload_n 0, 1) := by decide +kernel
theorem dX6_readInner_96 : decode cX6_readInner 96 = .ok (.getfield 169, 3) := by decide +kernel
theorem dX6_readInner_99 : decode cX6_readInner 99 = .ok (.ifCond .eq 5, 3) := by decide +kernel
theorem dX6_readInner_102 : decode cX6_readInner 102 = .ok (.iconst 0, 1) := by decide +kernel
theorem dX6_readInner_103 : decode cX6_readInner 103 = .ok (.ireturn, 1) := by decide +kernel
theorem dX6_readInner_104 : decode cX6_readInner 104 = .ok (.lload_n 2, 1) := by decide +kernel
theorem dX6_readInner_105 : decode cX6_readInner 105 = .ok (.lconst 0, 1) := by decide +kernel
theorem dX6_readInner_106 : decode cX6_readInner 106 = .ok (.lcmp, 1) := by decide +kernel
theorem dX6_readInner_107 : decode cX6_readInner 107 = .ok (.ifCond .ne 7, 3) := by decide +kernel
theorem dX6_readInner_110 : decode cX6_readInner 110 = .ok (.iconst 1, 1) := by decide +kernel
theorem dX6_readInner_111 : decode cX6_readInner 111 = .ok (.goto 4, 3) := by decide +kernel
theorem dX6_readInner_114 : decode cX6_readInner 114 = .ok (.iconst 0, 1) := by decide +kernel
theorem dX6_readInner_115 : decode cX6_readInner 115 = .ok (.istore 4, 2) := by decide +kernel
theorem dX6_readInner_117 : decode cX6_readInner 117 = .ok (.aload_n 0, 1) := by decide +kernel
theorem dX6_readInner_118 : decode cX6_readInner 118 = .ok (.getfield 232, 3) := by decide +kernel
theorem dX6_readInner_121 : decode cX6_readInner 121 = .ok (.ifCond .ne 69, 3) := by decide +kernel
theorem dX6_readInner_124 : decode cX6_readInner 124 = .ok (.iload 4, 2) := by decide +kernel
theorem dX6_readInner_126 : decode cX6_readInner 126 = .ok (.ifCond .ne 57, 3) := by decide +kernel
theorem dX6_readInner_129 : decode cX6_readInner 129 = .ok (.lload_n 2, 1) := by decide +kernel
theorem dX6_readInner_130 : decode cX6_readInner 130 = .ok (.ldc2_w 244, 3) := by decide +kernel
theorem dX6_readInner_133 : decode cX6_readInner 133 = .ok (.lcmp, 1) := by decide +kernel
theorem dX6_readInner_134 : decode cX6_readInner 134 = .ok (.ifCond .ne 8, 3) := by decide +kernel
theorem dX6_readInner_137 : decode cX6_readInner 137 = .ok (.iload_n 1, 1) := by decide +kernel
theorem dX6_readInner_138 : decode cX6_readInner 138 = .ok (.iconst 2, 1) := by decide +kernel
theorem dX6_readInner_139 : decode cX6_readInner 139 = .ok (.if_icmp .lt 44, 3) := by decide +kernel
theorem dX6_readInner_142 : decode cX6_readInner 142 = .ok (.lload_n 2, 1) := by decide +kernel
theorem dX6_readInner_143 : decode cX6_readInner 143 = .ok (.ldc2_w 246, 3) := by decide +kernel
theorem dX6_readInner_146 : decode cX6_readInner 146 = .ok (.lcmp, 1) := by decide +kernel
theorem dX6_readInner_147 : decode cX6_readInner 147 = .ok (.ifCond .ne 8, 3) := by decide +kernel
theorem dX6_readInner_150 : decode cX6_readInner 150 = .ok (.iload_n 1, 1) := by decide +kernel
theorem dX6_readInner_151 : decode cX6_readInner 151 = .ok (.iconst 2, 1) := by decide +kernel
theorem dX6_readInner_152 : decode cX6_readInner 152 = .ok (.if_icmp .eq 31, 3) := by decide +kernel
theorem dX6_readInner_155 : decode cX6_readInner 155 = .ok (.lload_n 2, 1) := by decide +kernel
theorem dX6_readInner_156 : decode cX6_readInner 156 = .ok (.ldc2_w 60, 3) := by decide +kernel
theorem dX6_readInner_159 : decode cX6_readInner 159 = .ok (.lcmp, 1) := by decide +kernel
theorem dX6_readInner_160 : decode cX6_readInner 160 = .ok (.ifCond .ne 8, 3) := by decide +kernel
theorem dX6_readInner_163 : decode cX6_readInner 163 = .ok (.iload_n 1, 1) := by decide +kernel
theorem dX6_readInner_164 : decode cX6_readInner 164 = .ok (.iconst 3, 1) := by decide +kernel
theorem dX6_readInner_165 : decode cX6_readInner 165 = .ok (.if_icmp .eq 18, 3) := by decide +kernel
theorem dX6_readInner_168 : decode cX6_readInner 168 = .ok (.lload_n 2, 1) := by decide +kernel
theorem dX6_readInner_169 : decode cX6_readInner 169 = .ok (.ldc2_w 74, 3) := by decide +kernel
theorem dX6_readInner_172 : decode cX6_readInner 172 = .ok (.lcmp, 1) := by decide +kernel
theorem dX6_readInner_173 : decode cX6_readInner 173 = .ok (.ifCond .ne 14, 3) := by decide +kernel
theorem dX6_readInner_176 : decode cX6_readInner 176 = .ok (.aload_n 0, 1) := by decide +kernel
theorem dX6_readInner_177 : decode cX6_readInner 177 = .ok (.getfield 248, 3) := by decide +kernel
theorem dX6_readInner_180 : decode cX6_readInner 180 = .ok (.ifCond .lt 7, 3) := by decide +kernel
theorem dX6_readInner_183 : decode cX6_readInner 183 = .ok (.iconst 1, 1) := by decide +kernel
theorem dX6_readInner_184 : decode cX6_readInner 184 = .ok (.goto 4, 3) := by decide +kernel
theorem dX6_readInner_187 : decode cX6_readInner 187 = .ok (.iconst 0, 1) := by decide +kernel
theorem dX6_readInner_188 : decode cX6_readInner 188 = .ok (.istore 4, 2) := by decide +kernel
theorem dX6_readInner_190 : decode cX6_readInner 190 = .ok (.aload_n 0, 1) := by decide +kernel
theorem dX6_readInner_191 : decode cX6_readInner 191 = .ok (.lload_n 2, 1) := by decide +kernel
theorem dX6_readInner_192 : decode cX6_readInner 192 = .ok (.l2i, 1) := by decide +kernel
theorem dX6_readInner_193 : decode cX6_readInner 193 = .ok (.putfield 251, 3) := by decide +kernel
theorem dX6_readInner_196 : decode cX6_readInner 196 = .ok (.iload 4, 2) := by decide +kernel
theorem dX6_readInner_198 : decode cX6_readInner 198 = .ok (.ifCond .ne 16, 3) := by decide +kernel
theorem dX6_readInner_201 : decode cX6_readInner 201 = .ok (.aload_n 0, 1) := by decide +kernel
theorem dX6_readInner_202 : decode cX6_readInner 202 = .ok (.bipush 8, 2) := by decide +kernel
theorem dX6_readInner_204 : decode cX6_readInner 204 = .ok (.aload_n 0, 1) := by decide +kernel
theorem dX6_readInner_205 : decode cX6_readInner 205 = .ok (.getfield 223, 3) := by decide +kernel
theorem dX6_readInner_208 : decode cX6_readInner 208 = .ok (.invokevirtual 181, 3) := by decide +kernel
theorem dX6_readInner_211 : decode cX6_readInner 211 = .ok (.ifCond .eq 7, 3) := by decide +kernel
theorem dX6_readInner_214 : decode cX6_readInner 214 = .ok (.iconst 1, 1) := by decide +kernel
theorem dX6_readInner_215 : decode cX6_readInner 215 = .ok (.goto 4, 3) := by decide +kernel
theorem dX6_readInner_218 : decode cX6_readInner 218 = .ok (.iconst 0, 1) := by decide +kernel
theorem dX6_readInner_219 : decode cX6_readInner 219 = .ok (.ireturn, 1) := by decide +kernel
theorem dX6_isOver_0 : decode cX6_isOver 0 = .ok (.aload_n 0, 1) := by decide +kernel
theorem dX6_isOver_1 : decode cX6_isOver 1 = .ok (.getfield 175, 3) := by decide +kernel
theorem dX6_isOver_4 : decode cX6_isOver 4 = .ok (.iload_n 1, 1) := by decide +kernel
theorem dX6_isOver_5 : decode cX6_isOver 5 = .ok (.if_icmp .eq 16, 3) := by decide +kernel
theorem dX6_isOver_8 : decode cX6_isOver 8 = .ok (.aload_n 0, 1) := by decide +kernel
theorem dX6_isOver_9 : decode cX6_isOver 9 = .ok (.bipush 13, 2) := by decide +kernel
theorem dX6_isOver_11 : decode cX6_isOver 11 = .ok (.aload_n 0, 1) := by decide +kernel
theorem dX6_isOver_12 : decode cX6_isOver 12 = .ok (.getfield 175, 3) := by decide +kernel
theorem dX6_isOver_15 : decode cX6_isOver 15 = .ok (.invokevirtual 181, 3) := by decide +kernel
theorem dX6_isOver_18 : decode cX6_isOver 18 = .ok (.ifCond .eq 7, 3) := by decide +kernel
theorem dX6_isOver_21 : decode cX6_isOver 21 = .ok (.iconst 1, 1) := by decide +kernel
theorem dX6_isOver_22 : decode cX6_isOver 22 = .ok (.goto 4, 3) := by decide +kernel
theorem dX6_isOver_25 : decode cX6_isOver 25 = .ok (.iconst 0, 1) := by decide +kernel
theorem dX6_isOver_26 : decode cX6_isOver 26 = .ok (.ireturn, 1) := by decide +kernel
theorem dX6_readPage_0 : decode cX6_readPage 0 = .ok (.aload_n 0, 1) := by decide +kernel
theorem dX6_readPage_1 : decode cX6_readPage 1 = .ok (.iload_n 1, 1) := by decide +kernel
theorem dX6_readPage_2 : decode cX6_readPage 2 = .ok (.invokevirtual 254, 3) := by decide +kernel
theorem dX6_readPage_5 : decode cX6_readPage 5 = .ok (.ifCond .ne 5, 3) := by decide +kernel
theorem dX6_readPage_8 : decode cX6_readPage 8 = .ok (.iconst 0, 1) := by decide +kernel
theorem dX6_readPage_9 : decode cX6_readPage 9 = .ok (.ireturn, 1) := by decide +kernel
theorem dX6_readPage_10 : decode cX6_readPage 10 = .ok (.aload_n 0, 1) := by decide +kernel
theorem dX6_readPage_11 : decode cX6_readPage 11 = .ok (.getfield 175, 3) := by decide +kernel
theorem dX6_readPage_14 : decode cX6_readPage 14 = .ok (.aload_n 0, 1) := by decide +kernel
theorem dX6_readPage_15 : decode cX6_readPage 15 = .ok (.getfield 235, 3) := by decide +kernel
theorem dX6_readPage_18 : decode cX6_readPage 18 = .ok (.iadd, 1) := by decide +kernel
theorem dX6_readPage_19 : decode cX6_readPage 19 = .ok (.aload_n 0, 1) := by decide +kernel
theorem dX6_readPage_20 : decode cX6_readPage 20 = .ok (.getfield 166, 3) := by decide +kernel
theorem dX6_readPage_23 : decode cX6_readPage 23 = .ok (.if_icmp .le 13, 3) := by decide +kernel
theorem dX6_readPage_26 : decode cX6_readPage 26 = .ok (.aload_n 0, 1) := by decide +kernel
theorem dX6_readPage_27 : decode cX6_readPage 27 = .ok (.iconst 1, 1) := by decide +kernel
theorem dX6_readPage_28 : decode cX6_readPage 28 = .ok (.aload_n 0, 1) := by decide +kernel
theorem dX6_readPage_29 : decode cX6_readPage 29 = .ok (.getfield 166, 3) := by decide +kernel
theorem dX6_readPage_32 : decode cX6_readPage 32 = .ok (.invokevirtual 181, 3) := by decide +kernel
theorem dX6_readPage_35 : decode cX6_readPage 35 = .ok (.ireturn, 1) := by decide +kernel
theorem dX6_readPage_36 : decode cX6_readPage 36 = .ok (.aload_n 0, 1) := by decide +kernel
theorem dX6_readPage_37 : decode cX6_readPage 37 = .ok (.getfield 175, 3) := by decide +kernel
theorem dX6_readPage_40 : decode cX6_readPage 40 = .ok (.aload_n 0, 1) := by decide +kernel
theorem dX6_readPage_41 : decode cX6_readPage 41 = .ok (.getfield 235, 3) := by decide +kernel
theorem dX6_readPage_44 : decode cX6_readPage 44 = .ok (.iadd, 1) := by decide +kernel
theorem dX6_readPage_45 : decode cX6_readPage 45 = .ok (.istore_n 3, 1) := by decide +kernel
theorem dX6_readPage_46 : decode cX6_readPage 46 = .ok (.aload_n 0, 1) := by decide +kernel
theorem dX6_readPage_47 : decode cX6_readPage 47 = .ok (.iload_n 3, 1) := by decide +kernel
theorem dX6_readPage_48 : decode cX6_readPage 48 = .ok (.putfield 178, 3) := by decide +kernel
theorem dX6_readPage_51 : decode cX6_readPage 51 = .ok (.aload_n 0, 1) := by decide +kernel
theorem dX6_readPage_52 : decode cX6_readPage 52 = .ok (.getfield 232, 3) := by decide +kernel
theorem dX6_readPage_55 : decode cX6_readPage 55 = .ok (.iconst 2, 1) := by decide +kernel
theorem dX6_readPage_56 : decode cX6_readPage 56 = .ok (.if_icmp .ne 62, 3) := by decide +kernel
theorem dX6_readPage_59 : decode cX6_readPage 59 = .ok (.iconst 0, 1) := by decide +kernel
theorem dX6_readPage_60 : decode cX6_readPage 60 = .ok (.istore 4, 2) := by decide +kernel
theorem dX6_readPage_62 : decode cX6_readPage 62 = .ok (.iload 4, 2) := by decide +kernel
theorem dX6_readPage_64 : decode cX6_readPage 64 = .ok (.aload_n 0, 1) := by decide +kernel
theorem dX6_readPage_65 : decode cX6_readPage 65 = .ok (.getfield 241, 3) := by decide +kernel
theorem dX6_readPage_68 : decode cX6_readPage 68 = .ok (.if_icmp .ge 20, 3) := by decide +kernel
theorem dX6_readPage_71 : decode cX6_readPage 71 = .ok (.aload_n 0, 1) := by decide +kernel
theorem dX6_readPage_72 : decode cX6_readPage 72 = .ok (.iconst 5, 1) := by decide +kernel
theorem dX6_readPage_73 : decode cX6_readPage 73 = .ok (.iload_n 1, 1) := by decide +kernel
theorem dX6_readPage_74 : decode cX6_readPage 74 = .ok (.invokevirtual 257, 3) := by decide +kernel
theorem dX6_readPage_77 : decode cX6_readPage 77 = .ok (.ifCond .ne 5, 3) := by decide +kernel
theorem dX6_readPage_80 : decode cX6_readPage 80 = .ok (.iconst 0, 1) := by decide +kernel
theorem dX6_readPage_81 : decode cX6_readPage 81 = .ok (.ireturn, 1) := by decide +kernel
theorem dX6_readPage_82 : decode cX6_readPage 82 = .ok (.iinc 4 1, 3) := by decide +kernel
theorem dX6_readPage_85 : decode cX6_readPage 85 = .ok (.goto (-23), 3) := by decide +kernel
theorem dX6_readPage_88 : decode cX6_readPage 88 = .ok (.aload_n 0, 1) := by decide +kernel
theorem dX6_readPage_89 : decode cX6_readPage 89 = .ok (.aload_n 0, 1) := by decide +kernel
theorem dX6_readPage_90 : decode cX6_readPage 90 = .ok (.getfield 241, 3) := by decide +kernel
theorem dX6_readPage_93 : decode cX6_readPage 93 = .ok (.putfield 248, 3) := by decide +kernel
theorem dX6_readPage_96 : decode cX6_readPage 96 = .ok (.aload_n 0, 1) := by decide +kernel
theorem dX6_readPage_97 : decode cX6_readPage 97 = .ok (.iload_n 3, 1) := by decide +kernel
theorem dX6_readPage_98 : decode cX6_readPage 98 = .ok (.invokevirtual 260, 3) := by decide +kernel
theorem dX6_readPage_101 : decode cX6_readPage 101 = .ok (.ifCond .ne 5, 3) := by decide +kernel
theorem dX6_readPage_104 : decode cX6_readPage 104 = .ok (.iconst 0, 1) := by decide +kernel
theorem dX6_readPage_105 : decode cX6_readPage 105 = .ok (.ireturn, 1) := by decide +kernel
theorem dX6_readPage_106 : decode cX6_readPage 106 = .ok (.aload_n 0, 1) := by decide +kernel
theorem dX6_readPage_107 : decode cX6_readPage 107 = .ok (.dup, 1) := by decide +kernel
theorem dX6_readPage_108 : decode cX6_readPage 108 = .ok (.getfield 263, 3) := by decide +kernel
theorem dX6_readPage_111 : decode cX6_readPage 111 = .ok (.iconst 1, 1) := by decide +kernel
theorem dX6_readPage_112 : decode cX6_readPage 112 = .ok (.iadd, 1) := by decide +kernel
theorem dX6_readPage_113 : decode cX6_readPage 113 = .ok (.putfield 263, 3) := by decide +kernel
theorem dX6_readPage_116 : decode cX6_readPage 116 = .ok (.iconst 1, 1) := by decide +kernel
theorem dX6_readPage_117 : decode cX6_readPage 117 = .ok (.ireturn, 1) := by decide +kernel
theorem dX6_readPage_118 : decode cX6_readPage 118 = .ok (.aload_n 0, 1) := by decide +kernel
theorem dX6_readPage_119 : decode cX6_readPage 119 = .ok (.getfield 241, 3) := by decide +kernel
theorem dX6_readPage_122 : decode cX6_readPage 122 = .ok (.istore 4, 2) := by decide +kernel
theorem dX6_readPage_124 : decode cX6_readPage 124 = .ok (.iconst 0, 1) := by decide +kernel
theorem dX6_readPage_125 : decode cX6_readPage 125 = .ok (.istore 5, 2) := by decide +kernel
theorem dX6_readPage_127 : decode cX6_readPage 127 = .ok (.iload 5, 2) := by decide +kernel
theorem dX6_readPage_129 : decode cX6_readPage 129 = .ok (.aload_n 0, 1) := by decide +kernel
theorem dX6_readPage_130 : decode cX6_readPage 130 = .ok (.getfield 241, 3) := by decide +kernel
theorem dX6_readPage_133 : decode cX6_readPage 133 = .ok (.if_icmp .ge 17, 3) := by decide +kernel
theorem dX6_readPage_136 : decode cX6_readPage 136 = .ok (.aload_n 0, 1) := by decide +kernel
theorem dX6_readPage_137 : decode cX6_readPage 137 = .ok (.getfield 57, 3) := by decide +kernel
theorem dX6_readPage_140 : decode cX6_readPage 140 = .ok (.iload 5, 2) := by decide +kernel
theorem dX6_readPage_142 : decode cX6_readPage 142 = .ok (.iconst 1, 1) := by decide +kernel
theorem dX6_readPage_143 : decode cX6_readPage 143 = .ok (.bastore, 1) := by decide +kernel
theorem dX6_readPage_144 : decode cX6_readPage 144 = .ok (.iinc 5 1, 3) := by decide +kernel
theorem dX6_readPage_147 : decode cX6_readPage 147 = .ok (.goto (-20), 3) := by decide +kernel
theorem dX6_readPage_150 : decode cX6_readPage 150 = .ok (.iload_n 2, 1) := by decide +kernel
theorem dX6_readPage_151 : decode cX6_readPage 151 = .ok (.ifCond .eq 125, 3) := by decide +kernel
theorem dX6_readPage_154 : decode cX6_readPage 154 = .ok (.aload_n 0, 1) := by decide +kernel
theorem dX6_readPage_155 : decode cX6_readPage 155 = .ok (.sipush 12000, 3) := by decide +kernel
theorem dX6_readPage_158 : decode cX6_readPage 158 = .ok (.invokevirtual 212, 3) := by decide +kernel
theorem dX6_readPage_161 : decode cX6_readPage 161 = .ok (.istore 5, 2) := by decide +kernel
theorem dX6_readPage_163 : decode cX6_readPage 163 = .ok (.iload 5, 2) := by decide +kernel
theorem dX6_readPage_165 : decode cX6_readPage 165 = .ok (.ifCond .ge 5, 3) := by decide +kernel
theorem dX6_readPage_168 : decode cX6_readPage 168 = .ok (.iconst 0, 1) := by decide +kernel
theorem dX6_readPage_169 : decode cX6_readPage 169 = .ok (.ireturn, 1) := by decide +kernel
theorem dX6_readPage_170 : decode cX6_readPage 170 = .ok (.aload_n 0, 1) := by decide +kernel
theorem dX6_readPage_171 : decode cX6_readPage 171 = .ok (.aload_n 0, 1) := by decide +kernel
theorem dX6_readPage_172 : decode cX6_readPage 172 = .ok (.getfield 175, 3) := by decide +kernel
theorem dX6_readPage_175 : decode cX6_readPage 175 = .ok (.iload 5, 2) := by decide +kernel
theorem dX6_readPage_177 : decode cX6_readPage 177 = .ok (.iadd, 1) := by decide +kernel
theorem dX6_readPage_178 : decode cX6_readPage 178 = .ok (.putfield 178, 3) := by decide +kernel
theorem dX6_readPage_181 : decode cX6_readPage 181 = .ok (.aload_n 0, 1) := by decide +kernel
theorem dX6_readPage_182 : decode cX6_readPage 182 = .ok (.aload_n 0, 1) := by decide +kernel
theorem dX6_readPage_183 : decode cX6_readPage 183 = .ok (.getfield 241, 3) := by decide +kernel
theorem dX6_readPage_186 : decode cX6_readPage 186 = .ok (.iconst 1, 1) := by decide +kernel
theorem dX6_readPage_187 : decode cX6_readPage 187 = .ok (.invokevirtual 266, 3) := by decide +kernel
theorem dX6_readPage_190 : decode cX6_readPage 190 = .ok (.ifCond .eq 14, 3) := by decide +kernel
theorem dX6_readPage_193 : decode cX6_readPage 193 = .ok (.aload_n 0, 1) := by decide +kernel
theorem dX6_readPage_194 : decode cX6_readPage 194 = .ok (.aload_n 0, 1) := by decide +kernel
theorem dX6_readPage_195 : decode cX6_readPage 195 = .ok (.getfield 178, 3) := by decide +kernel
theorem dX6_readPage_198 : decode cX6_readPage 198 = .ok (.invokevirtual 260, 3) := by decide +kernel
theorem dX6_readPage_201 : decode cX6_readPage 201 = .ok (.ifCond .ne 5, 3) := by decide +kernel
theorem dX6_readPage_204 : decode cX6_readPage 204 = .ok (.iconst 0, 1) := by decide +kernel
theorem dX6_readPage_205 : decode cX6_readPage 205 = .ok (.ireturn, 1) := by decide +kernel
theorem dX6_readPage_206 : decode cX6_readPage 206 = .ok (.aload_n 0, 1) := by decide +kernel
theorem dX6_readPage_207 : decode cX6_readPage 207 = .ok (.iload_n 3, 1) := by decide +kernel
theorem dX6_readPage_208 : decode cX6_readPage 208 = .ok (.putfield 178, 3) := by decide +kernel
theorem dX6_readPage_211 : decode cX6_readPage 211 = .ok (.iconst 0, 1) := by decide +kernel
theorem dX6_readPage_212 : decode cX6_readPage 212 = .ok (.istore 4, 2) := by decide +kernel
theorem dX6_readPage_214 : decode cX6_readPage 214 = .ok (.iconst 0, 1) := by decide +kernel
theorem dX6_readPage_215 : decode cX6_readPage 215 = .ok (.istore 6, 2) := by decide +kernel
theorem dX6_readPage_217 : decode cX6_readPage 217 = .ok (.iload 6, 2) := by decide +kernel
theorem dX6_readPage_219 : decode cX6_readPage 219 = .ok (.aload_n 0, 1) := by decide +kernel
theorem dX6_readPage_220 : decode cX6_readPage 220 = .ok (.getfield 241, 3) := by decide +kernel
theorem dX6_readPage_223 : decode cX6_readPage 223 = .ok (.if_icmp .ge 53, 3) := by decide +kernel
theorem dX6_readPage_226 : decode cX6_readPage 226 = .ok (.aload_n 0, 1) := by decide +kernel
theorem dX6_readPage_227 : decode cX6_readPage 227 = .ok (.getfield 57, 3) := by decide +kernel
theorem dX6_readPage_230 : decode cX6_readPage 230 = .ok (.iload 6, 2) := by decide +kernel
theorem dX6_readPage_232 : decode cX6_readPage 232 = .ok (.aload_n 0, 1) := by decide +kernel
theorem dX6_readPage_233 : decode cX6_readPage 233 = .ok (.getfield 42, 3) := by decide +kernel
theorem dX6_readPage_236 : decode cX6_readPage 236 = .ok (.iload 6, 2) := by decide +kernel
theorem dX6_readPage_238 : decode cX6_readPage 238 = .ok (.laload, 1) := by decide +kernel
theorem dX6_readPage_239 : decode cX6_readPage 239 = .ok (.lconst 1, 1) := by decide +kernel
theorem dX6_readPage_240 : decode cX6_readPage 240 = .ok (.lcmp, 1) := by decide +kernel
theorem dX6_readPage_241 : decode cX6_readPage 241 = .ok (.ifCond .ne 7, 3) := by decide +kernel
theorem dX6_readPage_244 : decode cX6_readPage 244 = .ok (.iconst 1, 1) := by decide +kernel
theorem dX6_readPage_245 : decode cX6_readPage 245 = .ok (.goto 4, 3) := by decide +kernel
theorem dX6_readPage_248 : decode cX6_readPage 248 = .ok (.iconst 0, 1) := by decide +kernel
theorem dX6_readPage_249 : decode cX6_readPage 249 = .ok (.bastore, 1) := by decide +kernel
theorem dX6_readPage_250 : decode cX6_readPage 250 = .ok (.iload 4, 2) := by decide +kernel
theorem dX6_readPage_252 : decode cX6_readPage 252 = .ok (.aload_n 0, 1) := by decide +kernel
theorem dX6_readPage_253 : decode cX6_readPage 253 = .ok (.getfield 57, 3) := by decide +kernel
theorem dX6_readPage_256 : decode cX6_readPage 256 = .ok (.iload 6, 2) := by decide +kernel
theorem dX6_readPage_258 : decode cX6_readPage 258 = .ok (.baload, 1) := by decide +kernel
theorem dX6_readPage_259 : decode cX6_readPage 259 = .ok (.ifCond .eq 7, 3) := by decide +kernel
theorem dX6_readPage_262 : decode cX6_readPage 262 = .ok (.iconst 1, 1) := by decide +kernel
theorem dX6_readPage_263 : decode cX6_readPage 263 = .ok (.goto 4, 3) := by decide +kernel
theorem dX6_readPage_266 : decode cX6_readPage 266 = .ok (.iconst 0, 1) := by decide +kernel
theorem dX6_readPage_267 : decode cX6_readPage 267 = .ok (.iadd, 1) := by decide +kernel
theorem dX6_readPage_268 : decode cX6_readPage 268 = .ok (.istore 4, 2) := by decide +kernel
theorem dX6_readPage_270 : decode cX6_readPage 270 = .ok (.iinc 6 1, 3) := by decide +kernel
theorem dX6_readPage_273 : decode cX6_readPage 273 = .ok (.goto (-56), 3) := by decide +kernel
theorem dX6_readPage_276 : decode cX6_readPage 276 = .ok (.aload_n 0, 1) := by decide +kernel
theorem dX6_readPage_277 : decode cX6_readPage 277 = .ok (.iload_n 1, 1) := by decide +kernel
theorem dX6_readPage_278 : decode cX6_readPage 278 = .ok (.iload 4, 2) := by decide +kernel
theorem dX6_readPage_280 : decode cX6_readPage 280 = .ok (.invokevirtual 269, 3) := by decide +kernel
theorem dX6_readPage_283 : decode cX6_readPage 283 = .ok (.ifCond .eq 11, 3) := by decide +kernel
theorem dX6_readPage_286 : decode cX6_readPage 286 = .ok (.aload_n 0, 1) := by decide +kernel
theorem dX6_readPage_287 : decode cX6_readPage 287 = .ok (.iload_n 3, 1) := by decide +kernel
theorem dX6_readPage_288 : decode cX6_readPage 288 = .ok (.invokevirtual 260, 3) := by decide +kernel
theorem dX6_readPage_291 : decode cX6_readPage 291 = .ok (.ifCond .ne 5, 3) := by decide +kernel
theorem dX6_readPage_294 : decode cX6_readPage 294 = .ok (.iconst 0, 1) := by decide +kernel
theorem dX6_readPage_295 : decode cX6_readPage 295 = .ok (.ireturn, 1) := by decide +kernel
theorem dX6_readPage_296 : decode cX6_readPage 296 = .ok (.iconst 0, 1) := by decide +kernel
theorem dX6_readPage_297 : decode cX6_readPage 297 = .ok (.istore 5, 2) := by decide +kernel
theorem dX6_readPage_299 : decode cX6_readPage 299 = .ok (.iconst 0, 1) := by decide +kernel
theorem dX6_readPage_300 : decode cX6_readPage 300 = .ok (.istore 6, 2) := by decide +kernel
theorem dX6_readPage_302 : decode cX6_readPage 302 = .ok (.iload 6, 2) := by decide +kernel
theorem dX6_readPage_304 : decode cX6_readPage 304 = .ok (.aload_n 0, 1) := by decide +kernel
theorem dX6_readPage_305 : decode cX6_readPage 305 = .ok (.getfield 241, 3) := by decide +kernel
theorem dX6_readPage_308 : decode cX6_readPage 308 = .ok (.if_icmp .ge 59, 3) := by decide +kernel
theorem dX6_readPage_311 : decode cX6_readPage 311 = .ok (.aload_n 0, 1) := by decide +kernel
theorem dX6_readPage_312 : decode cX6_readPage 312 = .ok (.getfield 57, 3) := by decide +kernel
theorem dX6_readPage_315 : decode cX6_readPage 315 = .ok (.iload 6, 2) := by decide +kernel
theorem dX6_readPage_317 : decode cX6_readPage 317 = .ok (.baload, 1) := by decide +kernel
theorem dX6_readPage_318 : decode cX6_readPage 318 = .ok (.ifCond .eq 34, 3) := by decide +kernel
theorem dX6_readPage_321 : decode cX6_readPage 321 = .ok (.aload_n 0, 1) := by decide +kernel
theorem dX6_readPage_322 : decode cX6_readPage 322 = .ok (.iconst 4, 1) := by decide +kernel
theorem dX6_readPage_323 : decode cX6_readPage 323 = .ok (.iconst 1, 1) := by decide +kernel
theorem dX6_readPage_324 : decode cX6_readPage 324 = .ok (.lconst 0, 1) := by decide +kernel
theorem dX6_readPage_325 : decode cX6_readPage 325 = .ok (.invokevirtual 70, 3) := by decide +kernel
theorem dX6_readPage_328 : decode cX6_readPage 328 = .ok (.istore 7, 2) := by decide +kernel
theorem dX6_readPage_330 : decode cX6_readPage 330 = .ok (.aload_n 0, 1) := by decide +kernel
theorem dX6_readPage_331 : decode cX6_readPage 331 = .ok (.sipush 800, 3) := by decide +kernel
theorem dX6_readPage_334 : decode cX6_readPage 334 = .ok (.iload 7, 2) := by decide +kernel
theorem dX6_readPage_336 : decode cX6_readPage 336 = .ok (.iadd, 1) := by decide +kernel
theorem dX6_readPage_337 : decode cX6_readPage 337 = .ok (.sipush 1200, 3) := by decide +kernel
theorem dX6_readPage_340 : decode cX6_readPage 340 = .ok (.iload 5, 2) := by decide +kernel
theorem dX6_readPage_342 : decode cX6_readPage 342 = .ok (.iadd, 1) := by decide +kernel
theorem dX6_readPage_343 : decode cX6_readPage 343 = .ok (.invokevirtual 82, 3) := by decide +kernel
theorem dX6_readPage_346 : decode cX6_readPage 346 = .ok (.iinc 5 1, 3) := by decide +kernel
theorem dX6_readPage_349 : decode cX6_readPage 349 = .ok (.goto 12, 3) := by decide +kernel
theorem dX6_readPage_352 : decode cX6_readPage 352 = .ok (.aload_n 0, 1) := by decide +kernel
theorem dX6_readPage_353 : decode cX6_readPage 353 = .ok (.iconst 4, 1) := by decide +kernel
theorem dX6_readPage_354 : decode cX6_readPage 354 = .ok (.iconst 0, 1) := by decide +kernel
theorem dX6_readPage_355 : decode cX6_readPage 355 = .ok (.lconst 0, 1) := by decide +kernel
theorem dX6_readPage_356 : decode cX6_readPage 356 = .ok (.invokevirtual 70, 3) := by decide +kernel
theorem dX6_readPage_359 : decode cX6_readPage 359 = .ok (.istore 7, 2) := by decide +kernel
theorem dX6_readPage_361 : decode cX6_readPage 361 = .ok (.iinc 6 1, 3) := by decide +kernel
theorem dX6_readPage_364 : decode cX6_readPage 364 = .ok (.goto (-62), 3) := by decide +kernel
theorem dX6_readPage_367 : decode cX6_readPage 367 = .ok (.aload_n 0, 1) := by decide +kernel
theorem dX6_readPage_368 : decode cX6_readPage 368 = .ok (.dup, 1) := by decide +kernel
theorem dX6_readPage_369 : decode cX6_readPage 369 = .ok (.getfield 263, 3) := by decide +kernel
theorem dX6_readPage_372 : decode cX6_readPage 372 = .ok (.iconst 1, 1) := by decide +kernel
theorem dX6_readPage_373 : decode cX6_readPage 373 = .ok (.iadd, 1) := by decide +kernel
theorem dX6_readPage_374 : decode cX6_readPage 374 = .ok (.putfield 263, 3) := by decide +kernel
theorem dX6_readPage_377 : decode cX6_readPage 377 = .ok (.iconst 1, 1) := by decide +kernel
theorem dX6_readPage_378 : decode cX6_readPage 378 = .ok (.ireturn, 1) := by decide +kernel
theorem dX6_readValues_0 : decode cX6_readValues 0 = .ok (.aload_n 0, 1) := by decide +kernel
theorem dX6_readValues_1 : decode cX6_readValues 1 = .ok (.getfield 178, 3) := by decide +kernel
theorem dX6_readValues_4 : decode cX6_readValues 4 = .ok (.istore_n 3, 1) := by decide +kernel
theorem dX6_readValues_5 : decode cX6_readValues 5 = .ok (.aload_n 0, 1) := by decide +kernel
theorem dX6_readValues_6 : decode cX6_readValues 6 = .ok (.getfield 17, 3) := by decide +kernel
theorem dX6_readValues_9 : decode cX6_readValues 9 = .ok (.bipush 6, 2) := by decide +kernel
theorem dX6_readValues_11 : decode cX6_readValues 11 = .ok (.iconst 0, 1) := by decide +kernel
theorem dX6_readValues_12 : decode cX6_readValues 12 = .ok (.iastore, 1) := by decide +kernel
theorem dX6_readValues_13 : decode cX6_readValues 13 = .ok (.aload_n 0, 1) := by decide +kernel
theorem dX6_readValues_14 : decode cX6_readValues 14 = .ok (.getfield 251, 3) := by decide +kernel
theorem dX6_readValues_17 : decode cX6_readValues 17 = .ok (.ifCond .ne 54, 3) := by decide +kernel
theorem dX6_readValues_20 : decode cX6_readValues 20 = .ok (.iload_n 1, 1) := by decide +kernel
theorem dX6_readValues_21 : decode cX6_readValues 21 = .ok (.iconst 3, 1) := by decide +kernel
theorem dX6_readValues_22 : decode cX6_readValues 22 = .ok (.if_icmp .ne 49, 3) := by decide +kernel
theorem dX6_readValues_25 : decode cX6_readValues 25 = .ok (.aload_n 0, 1) := by decide +kernel
theorem dX6_readValues_26 : decode cX6_readValues 26 = .ok (.iconst 0, 1) := by decide +kernel
theorem dX6_readValues_27 : decode cX6_readValues 27 = .ok (.putfield 192, 3) := by decide +kernel
theorem dX6_readValues_30 : decode cX6_readValues 30 = .ok (.iconst 0, 1) := by decide +kernel
theorem dX6_readValues_31 : decode cX6_readValues 31 = .ok (.istore 4, 2) := by decide +kernel
theorem dX6_readValues_33 : decode cX6_readValues 33 = .ok (.iload 4, 2) := by decide +kernel
theorem dX6_readValues_35 : decode cX6_readValues 35 = .ok (.iload_n 2, 1) := by decide +kernel
theorem dX6_readValues_36 : decode cX6_readValues 36 = .ok (.if_icmp .ge 33, 3) := by decide +kernel
theorem dX6_readValues_39 : decode cX6_readValues 39 = .ok (.aload_n 0, 1) := by decide +kernel
theorem dX6_readValues_40 : decode cX6_readValues 40 = .ok (.iconst 1, 1) := by decide +kernel
theorem dX6_readValues_41 : decode cX6_readValues 41 = .ok (.invokevirtual 198, 3) := by decide +kernel
theorem dX6_readValues_44 : decode cX6_readValues 44 = .ok (.lstore 5, 2) := by decide +kernel
theorem dX6_readValues_46 : decode cX6_readValues 46 = .ok (.aload_n 0, 1) := by decide +kernel
theorem dX6_readValues_47 : decode cX6_readValues 47 = .ok (.getfield 169, 3) := by decide +kernel
theorem dX6_readValues_50 : decode cX6_readValues 50 = .ok (.ifCond .eq 5, 3) := by decide +kernel
theorem dX6_readValues_53 : decode cX6_readValues 53 = .ok (.iconst 0, 1) := by decide +kernel
theorem dX6_readValues_54 : decode cX6_readValues 54 = .ok (.ireturn, 1) := by decide +kernel
theorem dX6_readValues_55 : decode cX6_readValues 55 = .ok (.aload_n 0, 1) := by decide +kernel
theorem dX6_readValues_56 : decode cX6_readValues 56 = .ok (.bipush 6, 2) := by decide +kernel
theorem dX6_readValues_58 : decode cX6_readValues 58 = .ok (.lload 5, 2) := by decide +kernel
theorem dX6_readValues_60 : decode cX6_readValues 60 = .ok (.invokevirtual 219, 3) := by decide +kernel
theorem dX6_readValues_63 : decode cX6_readValues 63 = .ok (.iinc 4 1, 3) := by decide +kernel
theorem dX6_readValues_66 : decode cX6_readValues 66 = .ok (.goto (-33), 3) := by decide +kernel
theorem dX6_readValues_69 : decode cX6_readValues 69 = .ok (.iconst 1, 1) := by decide +kernel
theorem dX6_readValues_70 : decode cX6_readValues 70 = .ok (.ireturn, 1) := by decide +kernel
theorem dX6_readValues_71 : decode cX6_readValues 71 = .ok (.aload_n 0, 1) := by decide +kernel
theorem dX6_readValues_72 : decode cX6_readValues 72 = .ok (.getfield 251, 3) := by decide +kernel
theorem dX6_readValues_75 : decode cX6_readValues 75 = .ok (.ifCond .ne 38, 3) := by decide +kernel
theorem dX6_readValues_78 : decode cX6_readValues 78 = .ok (.iconst 1, 1) := by decide +kernel
theorem dX6_readValues_79 : decode cX6_readValues 79 = .ok (.istore 4, 2) := by decide +kernel
theorem dX6_readValues_81 : decode cX6_readValues 81 = .ok (.iconst 0, 1) := by decide +kernel
theorem dX6_readValues_82 : decode cX6_readValues 82 = .ok (.istore 5, 2) := by decide +kernel
theorem dX6_readValues_84 : decode cX6_readValues 84 = .ok (.iload 5, 2) := by decide +kernel
theorem dX6_readValues_86 : decode cX6_readValues 86 = .ok (.iload_n 2, 1) := by decide +kernel
theorem dX6_readValues_87 : decode cX6_readValues 87 = .ok (.if_icmp .ge 23, 3) := by decide +kernel
theorem dX6_readValues_90 : decode cX6_readValues 90 = .ok (.iload 4, 2) := by decide +kernel
theorem dX6_readValues_92 : decode cX6_readValues 92 = .ok (.ifCond .eq 18, 3) := by decide +kernel
theorem dX6_readValues_95 : decode cX6_readValues 95 = .ok (.aload_n 0, 1) := by decide +kernel
theorem dX6_readValues_96 : decode cX6_readValues 96 = .ok (.bipush 6, 2) := by decide +kernel
theorem dX6_readValues_98 : decode cX6_readValues 98 = .ok (.iload_n 1, 1) := by decide +kernel
theorem dX6_readValues_99 : decode cX6_readValues 99 = .ok (.invokevirtual 257, 3) := by decide +kernel
theorem dX6_readValues_102 : decode cX6_readValues 102 = .ok (.istore 4, 2) := by decide +kernel
theorem dX6_readValues_104 : decode cX6_readValues 104 = .ok (.iinc 5 1, 3) := by decide +kernel
theorem dX6_readValues_107 : decode cX6_readValues 107 = .ok (.goto (-23), 3) := by decide +kernel
theorem dX6_readValues_110 : decode cX6_readValues 110 = .ok (.iload 4, 2) := by decide +kernel
theorem dX6_readValues_112 : decode cX6_readValues 112 = .ok (.ireturn, 1) := by decide +kernel
theorem dX6_readValues_113 : decode cX6_readValues 113 = .ok (.aload_n 0, 1) := by decide +kernel
theorem dX6_readValues_114 : decode cX6_readValues 114 = .ok (.getfield 251, 3) := by decide +kernel
theorem dX6_readValues_117 : decode cX6_readValues 117 = .ok (.iconst 5, 1) := by decide +kernel
theorem dX6_readValues_118 : decode cX6_readValues 118 = .ok (.if_icmp .ne 52, 3) := by decide +kernel
theorem dX6_readValues_121 : decode cX6_readValues 121 = .ok (.aload_n 0, 1) := by decide +kernel
theorem dX6_readValues_122 : decode cX6_readValues 122 = .ok (.iload_n 2, 1) := by decide +kernel
theorem dX6_readValues_123 : decode cX6_readValues 123 = .ok (.iload_n 1, 1) := by decide +kernel
theorem dX6_readValues_124 : decode cX6_readValues 124 = .ok (.ifCond .ne 7, 3) := by decide +kernel
theorem dX6_readValues_127 : decode cX6_readValues 127 = .ok (.iconst 1, 1) := by decide +kernel
theorem dX6_readValues_128 : decode cX6_readValues 128 = .ok (.goto 4, 3) := by decide +kernel
theorem dX6_readValues_131 : decode cX6_readValues 131 = .ok (.iconst 0, 1) := by decide +kernel
theorem dX6_readValues_132 : decode cX6_readValues 132 = .ok (.invokevirtual 272, 3) := by decide +kernel
theorem dX6_readValues_135 : decode cX6_readValues 135 = .ok (.ifCond .ne 5, 3) := by decide +kernel
theorem dX6_readValues_138 : decode cX6_readValues 138 = .ok (.iconst 0, 1) := by decide +kernel
theorem dX6_readValues_139 : decode cX6_readValues 139 = .ok (.ireturn, 1) := by decide +kernel
theorem dX6_readValues_140 : decode cX6_readValues 140 = .ok (.iconst 0, 1) := by decide +kernel
theorem dX6_readValues_141 : decode cX6_readValues 141 = .ok (.istore 4, 2) := by decide +kernel
theorem dX6_readValues_143 : decode cX6_readValues 143 = .ok (.iload 4, 2) := by decide +kernel
theorem dX6_readValues_145 : decode cX6_readValues 145 = .ok (.iload_n 2, 1) := by decide +kernel
theorem dX6_readValues_146 : decode cX6_readValues 146 = .ok (.if_icmp .ge 22, 3) := by decide +kernel
theorem dX6_readValues_149 : decode cX6_readValues 149 = .ok (.aload_n 0, 1) := by decide +kernel
theorem dX6_readValues_150 : decode cX6_readValues 150 = .ok (.bipush 6, 2) := by decide +kernel
theorem dX6_readValues_152 : decode cX6_readValues 152 = .ok (.aload_n 0, 1) := by decide +kernel
theorem dX6_readValues_153 : decode cX6_readValues 153 = .ok (.getfield 42, 3) := by decide +kernel
theorem dX6_readValues_156 : decode cX6_readValues 156 = .ok (.iload 4, 2) := by decide +kernel
theorem dX6_readValues_158 : decode cX6_readValues 158 = .ok (.laload, 1) := by decide +kernel
theorem dX6_readValues_159 : decode cX6_readValues 159 = .ok (.invokevirtual 219, 3) := by decide +kernel
theorem dX6_readValues_162 : decode cX6_readValues 162 = .ok (.iinc 4 1, 3) := by decide +kernel
theorem dX6_readValues_165 : decode cX6_readValues 165 = .ok (.goto (-22), 3) := by decide +kernel
theorem dX6_readValues_168 : decode cX6_readValues 168 = .ok (.iconst 1, 1) := by decide +kernel
theorem dX6_readValues_169 : decode cX6_readValues 169 = .ok (.ireturn, 1) := by decide +kernel
theorem dX6_readValues_170 : decode cX6_readValues 170 = .ok (.aload_n 0, 1) := by decide +kernel
theorem dX6_readValues_171 : decode cX6_readValues 171 = .ok (.getfield 251, 3) := by decide +kernel
theorem dX6_readValues_174 : decode cX6_readValues 174 = .ok (.bipush 6, 2) := by decide +kernel
theorem dX6_readValues_176 : decode cX6_readValues 176 = .ok (.if_icmp .ne 10, 3) := by decide +kernel
theorem dX6_readValues_179 : decode cX6_readValues 179 = .ok (.aload_n 0, 1) := by decide +kernel
theorem dX6_readValues_180 : decode cX6_readValues 180 = .ok (.iload_n 2, 1) := by decide +kernel
theorem dX6_readValues_181 : decode cX6_readValues 181 = .ok (.iload_n 3, 1) := by decide +kernel
theorem dX6_readValues_182 : decode cX6_readValues 182 = .ok (.invokevirtual 276, 3) := by decide +kernel
theorem dX6_readValues_185 : decode cX6_readValues 185 = .ok (.ireturn, 1) := by decide +kernel
theorem dX6_readValues_186 : decode cX6_readValues 186 = .ok (.aload_n 0, 1) := by decide +kernel
theorem dX6_readValues_187 : decode cX6_readValues 187 = .ok (.getfield 251, 3) := by decide +kernel
theorem dX6_readValues_190 : decode cX6_readValues 190 = .ok (.bipush 8, 2) := by decide +kernel
theorem dX6_readValues_192 : decode cX6_readValues 192 = .ok (.if_icmp .ne 9, 3) := by decide +kernel
theorem dX6_readValues_195 : decode cX6_readValues 195 = .ok (.aload_n 0, 1) := by decide +kernel
theorem dX6_readValues_196 : decode cX6_readValues 196 = .ok (.iload_n 2, 1) := by decide +kernel
theorem dX6_readValues_197 : decode cX6_readValues 197 = .ok (.invokevirtual 279, 3) := by decide +kernel
theorem dX6_readValues_200 : decode cX6_readValues 200 = .ok (.ireturn, 1) := by decide +kernel
theorem dX6_readValues_201 : decode cX6_readValues 201 = .ok (.aload_n 0, 1) := by decide +kernel
theorem dX6_readValues_202 : decode cX6_readValues 202 = .ok (.sipush 12000, 3) := by decide +kernel
theorem dX6_readValues_205 : decode cX6_readValues 205 = .ok (.invokevirtual 212, 3) := by decide +kernel
theorem dX6_readValues_208 : decode cX6_readValues 208 = .ok (.istore 4, 2) := by decide +kernel
theorem dX6_readValues_210 : decode cX6_readValues 210 = .ok (.iload 4, 2) := by decide +kernel
theorem dX6_readValues_212 : decode cX6_readValues 212 = .ok (.ifCond .ge 5, 3) := by decide +kernel
theorem dX6_readValues_215 : decode cX6_readValues 215 = .ok (.iconst 0, 1) := by decide +kernel
theorem dX6_readValues_216 : decode cX6_readValues 216 = .ok (.ireturn, 1) := by decide +kernel
theorem dX6_readValues_217 : decode cX6_readValues 217 = .ok (.aload_n 0, 1) := by decide +kernel
theorem dX6_readValues_218 : decode cX6_readValues 218 = .ok (.aload_n 0, 1) := by decide +kernel
theorem dX6_readValues_219 : decode cX6_readValues 219 = .ok (.getfield 175, 3) := by decide +kernel
theorem dX6_readValues_222 : decode cX6_readValues 222 = .ok (.iload 4, 2) := by decide +kernel
theorem dX6_readValues_224 : decode cX6_readValues 224 = .ok (.iadd, 1) := by decide +kernel
theorem dX6_readValues_225 : decode cX6_readValues 225 = .ok (.putfield 178, 3) := by decide +kernel
theorem dX6_readValues_228 : decode cX6_readValues 228 = .ok (.aload_n 0, 1) := by decide +kernel
theorem dX6_readValues_229 : decode cX6_readValues 229 = .ok (.iload_n 2, 1) := by decide +kernel
theorem dX6_readValues_230 : decode cX6_readValues 230 = .ok (.iconst 1, 1) := by decide +kernel
theorem dX6_readValues_231 : decode cX6_readValues 231 = .ok (.invokevirtual 266, 3) := by decide +kernel
theorem dX6_readValues_234 : decode cX6_readValues 234 = .ok (.ifCond .eq 14, 3) := by decide +kernel
theorem dX6_readValues_237 : decode cX6_readValues 237 = .ok (.aload_n 0, 1) := by decide +kernel
theorem dX6_readValues_238 : decode cX6_readValues 238 = .ok (.aload_n 0, 1) := by decide +kernel
theorem dX6_readValues_239 : decode cX6_readValues 239 = .ok (.getfield 178, 3) := by decide +kernel
theorem dX6_readValues_242 : decode cX6_readValues 242 = .ok (.invokevirtual 260, 3) := by decide +kernel
theorem dX6_readValues_245 : decode cX6_readValues 245 = .ok (.ifCond .ne 5, 3) := by decide +kernel
theorem dX6_readValues_248 : decode cX6_readValues 248 = .ok (.iconst 0, 1) := by decide +kernel
theorem dX6_readValues_249 : decode cX6_readValues 249 = .ok (.ireturn, 1) := by decide +kernel
theorem dX6_readValues_250 : decode cX6_readValues 250 = .ok (.aload_n 0, 1) := by decide +kernel
theorem dX6_readValues_251 : decode cX6_readValues 251 = .ok (.iload_n 3, 1) := by decide +kernel
theorem dX6_readValues_252 : decode cX6_readValues 252 = .ok (.putfield 178, 3) := by decide +kernel
theorem dX6_readValues_255 : decode cX6_readValues 255 = .ok (.iconst 0, 1) := by decide +kernel
theorem dX6_readValues_256 : decode cX6_readValues 256 = .ok (.istore 5, 2) := by decide +kernel
theorem dX6_readValues_258 : decode cX6_readValues 258 = .ok (.iload 5, 2) := by decide +kernel
theorem dX6_readValues_260 : decode cX6_readValues 260 = .ok (.iload_n 2, 1) := by decide +kernel
theorem dX6_readValues_261 : decode cX6_readValues 261 = .ok (.if_icmp .ge 22, 3) := by decide +kernel
theorem dX6_readValues_264 : decode cX6_readValues 264 = .ok (.aload_n 0, 1) := by decide +kernel
theorem dX6_readValues_265 : decode cX6_readValues 265 = .ok (.bipush 6, 2) := by decide +kernel
theorem dX6_readValues_267 : decode cX6_readValues 267 = .ok (.aload_n 0, 1) := by decide +kernel
theorem dX6_readValues_268 : decode cX6_readValues 268 = .ok (.getfield 42, 3) := by decide +kernel
theorem dX6_readValues_271 : decode cX6_readValues 271 = .ok (.iload 5, 2) := by decide +kernel
theorem dX6_readValues_273 : decode cX6_readValues 273 = .ok (.laload, 1) := by decide +kernel
theorem dX6_readValues_274 : decode cX6_readValues 274 = .ok (.invokevirtual 219, 3) := by decide +kernel
theorem dX6_readValues_277 : decode cX6_readValues 277 = .ok (.iinc 5 1, 3) := by decide +kernel
theorem dX6_readValues_280 : decode cX6_readValues 280 = .ok (.goto (-22), 3) := by decide +kernel
theorem dX6_readValues_283 : decode cX6_readValues 283 = .ok (.iconst 1, 1) := by decide +kernel
theorem dX6_readValues_284 : decode cX6_readValues 284 = .ok (.ireturn, 1) := by decide +kernel
theorem dX6_readTexts_0 : decode cX6_readTexts 0 = .ok (.aload_n 0, 1) := by decide +kernel
theorem dX6_readTexts_1 : decode cX6_readTexts 1 = .ok (.iload_n 1, 1) := by decide +kernel
theorem dX6_readTexts_2 : decode cX6_readTexts 2 = .ok (.iconst 1, 1) := by decide +kernel
theorem dX6_readTexts_3 : decode cX6_readTexts 3 = .ok (.invokevirtual 272, 3) := by decide +kernel
theorem dX6_readTexts_6 : decode cX6_readTexts 6 = .ok (.ifCond .ne 5, 3) := by decide +kernel
theorem dX6_readTexts_9 : decode cX6_readTexts 9 = .ok (.iconst 0, 1) := by decide +kernel
theorem dX6_readTexts_10 : decode cX6_readTexts 10 = .ok (.ireturn, 1) := by decide +kernel
theorem dX6_readTexts_11 : decode cX6_readTexts 11 = .ok (.lconst 0, 1) := by decide +kernel
theorem dX6_readTexts_12 : decode cX6_readTexts 12 = .ok (.lstore_n 3, 1) := by decide +kernel
theorem dX6_readTexts_13 : decode cX6_readTexts 13 = .ok (.iconst 1, 1) := by decide +kernel
theorem dX6_readTexts_14 : decode cX6_readTexts 14 = .ok (.istore 5, 2) := by decide +kernel
theorem dX6_readTexts_16 : decode cX6_readTexts 16 = .ok (.iconst 0, 1) := by decide +kernel
theorem dX6_readTexts_17 : decode cX6_readTexts 17 = .ok (.istore 6, 2) := by decide +kernel
theorem dX6_readTexts_19 : decode cX6_readTexts 19 = .ok (.iload 6, 2) := by decide +kernel
theorem dX6_readTexts_21 : decode cX6_readTexts 21 = .ok (.iload_n 1, 1) := by decide +kernel
theorem dX6_readTexts_22 : decode cX6_readTexts 22 = .ok (.if_icmp .ge 48, 3) := by decide +kernel
theorem dX6_readTexts_25 : decode cX6_readTexts 25 = .ok (.iload 5, 2) := by decide +kernel
theorem dX6_readTexts_27 : decode cX6_readTexts 27 = .ok (.ifCond .eq 24, 3) := by decide +kernel
theorem dX6_readTexts_30 : decode cX6_readTexts 30 = .ok (.aload_n 0, 1) := by decide +kernel
theorem dX6_readTexts_31 : decode cX6_readTexts 31 = .ok (.getfield 42, 3) := by decide +kernel
theorem dX6_readTexts_34 : decode cX6_readTexts 34 = .ok (.iload 6, 2) := by decide +kernel
theorem dX6_readTexts_36 : decode cX6_readTexts 36 = .ok (.laload, 1) := by decide +kernel
theorem dX6_readTexts_37 : decode cX6_readTexts 37 = .ok (.lconst 0, 1) := by decide +kernel
theorem dX6_readTexts_38 : decode cX6_readTexts 38 = .ok (.ldc2_w 282, 3) := by decide +kernel
theorem dX6_readTexts_41 : decode cX6_readTexts 41 = .ok (.invokestatic 62, 3) := by decide +kernel
theorem dX6_readTexts_44 : decode cX6_readTexts 44 = .ok (.ifCond .eq 7, 3) := by decide +kernel
theorem dX6_readTexts_47 : decode cX6_readTexts 47 = .ok (.iconst 1, 1) := by decide +kernel
theorem dX6_readTexts_48 : decode cX6_readTexts 48 = .ok (.goto 4, 3) := by decide +kernel
theorem dX6_readTexts_51 : decode cX6_readTexts 51 = .ok (.iconst 0, 1) := by decide +kernel
theorem dX6_readTexts_52 : decode cX6_readTexts 52 = .ok (.istore 5, 2) := by decide +kernel
theorem dX6_readTexts_54 : decode cX6_readTexts 54 = .ok (.lload_n 3, 1) := by decide +kernel
theorem dX6_readTexts_55 : decode cX6_readTexts 55 = .ok (.aload_n 0, 1) := by decide +kernel
theorem dX6_readTexts_56 : decode cX6_readTexts 56 = .ok (.getfield 42, 3) := by decide +kernel
theorem dX6_readTexts_59 : decode cX6_readTexts 59 = .ok (.iload 6, 2) := by decide +kernel
theorem dX6_readTexts_61 : decode cX6_readTexts 61 = .ok (.laload, 1) := by decide +kernel
theorem dX6_readTexts_62 : decode cX6_readTexts 62 = .ok (.ladd, 1) := by decide +kernel
theorem dX6_readTexts_63 : decode cX6_readTexts 63 = .ok (.lstore_n 3, 1) := by decide +kernel
theorem dX6_readTexts_64 : decode cX6_readTexts 64 = .ok (.iinc 6 1, 3) := by decide +kernel
theorem dX6_readTexts_67 : decode cX6_readTexts 67 = .ok (.goto (-48), 3) := by decide +kernel
theorem dX6_readTexts_70 : decode cX6_readTexts 70 = .ok (.iload 5, 2) := by decide +kernel
theorem dX6_readTexts_72 : decode cX6_readTexts 72 = .ok (.ifCond .eq 15, 3) := by decide +kernel
theorem dX6_readTexts_75 : decode cX6_readTexts 75 = .ok (.lload_n 3, 1) := by decide +kernel
theorem dX6_readTexts_76 : decode cX6_readTexts 76 = .ok (.iload_n 2, 1) := by decide +kernel
theorem dX6_readTexts_77 : decode cX6_readTexts 77 = .ok (.aload_n 0, 1) := by decide +kernel
theorem dX6_readTexts_78 : decode cX6_readTexts 78 = .ok (.getfield 175, 3) := by decide +kernel
theorem dX6_readTexts_81 : decode cX6_readTexts 81 = .ok (.isub, 1) := by decide +kernel
theorem dX6_readTexts_82 : decode cX6_readTexts 82 = .ok (.i2l, 1) := by decide +kernel
theorem dX6_readTexts_83 : decode cX6_readTexts 83 = .ok (.lcmp, 1) := by decide +kernel
theorem dX6_readTexts_84 : decode cX6_readTexts 84 = .ok (.ifCond .le 14, 3) := by decide +kernel
theorem dX6_readTexts_87 : decode cX6_readTexts 87 = .ok (.aload_n 0, 1) := by decide +kernel
theorem dX6_readTexts_88 : decode cX6_readTexts 88 = .ok (.bipush 10, 2) := by decide +kernel
theorem dX6_readTexts_90 : decode cX6_readTexts 90 = .ok (.aload_n 0, 1) := by decide +kernel
theorem dX6_readTexts_91 : decode cX6_readTexts 91 = .ok (.getfield 175, 3) := by decide +kernel
theorem dX6_readTexts_94 : decode cX6_readTexts 94 = .ok (.invokevirtual 181, 3) := by decide +kernel
theorem dX6_readTexts_97 : decode cX6_readTexts 97 = .ok (.ireturn, 1) := by decide +kernel
theorem dX6_readTexts_98 : decode cX6_readTexts 98 = .ok (.iconst 0, 1) := by decide +kernel
theorem dX6_readTexts_99 : decode cX6_readTexts 99 = .ok (.istore 6, 2) := by decide +kernel
theorem dX6_readTexts_101 : decode cX6_readTexts 101 = .ok (.iload 6, 2) := by decide +kernel
theorem dX6_readTexts_103 : decode cX6_readTexts 103 = .ok (.iload_n 1, 1) := by decide +kernel
theorem dX6_readTexts_104 : decode cX6_readTexts 104 = .ok (.if_icmp .ge 28, 3) := by decide +kernel
theorem dX6_readTexts_107 : decode cX6_readTexts 107 = .ok (.aload_n 0, 1) := by decide +kernel
theorem dX6_readTexts_108 : decode cX6_readTexts 108 = .ok (.bipush 6, 2) := by decide +kernel
theorem dX6_readTexts_110 : decode cX6_readTexts 110 = .ok (.aload_n 0, 1) := by decide +kernel
theorem dX6_readTexts_111 : decode cX6_readTexts 111 = .ok (.getfield 42, 3) := by decide +kernel
theorem dX6_readTexts_114 : decode cX6_readTexts 114 = .ok (.iload 6, 2) := by decide +kernel
theorem dX6_readTexts_116 : decode cX6_readTexts 116 = .ok (.laload, 1) := by decide +kernel
theorem dX6_readTexts_117 : decode cX6_readTexts 117 = .ok (.l2i, 1) := by decide +kernel
theorem dX6_readTexts_118 : decode cX6_readTexts 118 = .ok (.invokevirtual 216, 3) := by decide +kernel
theorem dX6_readTexts_121 : decode cX6_readTexts 121 = .ok (.ifCond .ne 5, 3) := by decide +kernel
theorem dX6_readTexts_124 : decode cX6_readTexts 124 = .ok (.iconst 0, 1) := by decide +kernel
theorem dX6_readTexts_125 : decode cX6_readTexts 125 = .ok (.ireturn, 1) := by decide +kernel
theorem dX6_readTexts_126 : decode cX6_readTexts 126 = .ok (.iinc 6 1, 3) := by decide +kernel
theorem dX6_readTexts_129 : decode cX6_readTexts 129 = .ok (.goto (-28), 3) := by decide +kernel
theorem dX6_readTexts_132 : decode cX6_readTexts 132 = .ok (.iconst 1, 1) := by decide +kernel
theorem dX6_readTexts_133 : decode cX6_readTexts 133 = .ok (.ireturn, 1) := by decide +kernel
theorem dX6_readPlaces_0 : decode cX6_readPlaces 0 = .ok (.aload_n 0, 1) := by decide +kernel
theorem dX6_readPlaces_1 : decode cX6_readPlaces 1 = .ok (.getfield 175, 3) := by decide +kernel
theorem dX6_readPlaces_4 : decode cX6_readPlaces 4 = .ok (.istore_n 2, 1) := by decide +kernel
theorem dX6_readPlaces_5 : decode cX6_readPlaces 5 = .ok (.aload_n 0, 1) := by decide +kernel
theorem dX6_readPlaces_6 : decode cX6_readPlaces 6 = .ok (.invokevirtual 184, 3) := by decide +kernel
theorem dX6_readPlaces_9 : decode cX6_readPlaces 9 = .ok (.istore_n 3, 1) := by decide +kernel
theorem dX6_readPlaces_10 : decode cX6_readPlaces 10 = .ok (.aload_n 0, 1) := by decide +kernel
theorem dX6_readPlaces_11 : decode cX6_readPlaces 11 = .ok (.getfield 169, 3) := by decide +kernel
theorem dX6_readPlaces_14 : decode cX6_readPlaces 14 = .ok (.ifCond .eq 5, 3) := by decide +kernel
theorem dX6_readPlaces_17 : decode cX6_readPlaces 17 = .ok (.iconst 0, 1) := by decide +kernel
theorem dX6_readPlaces_18 : decode cX6_readPlaces 18 = .ok (.ireturn, 1) := by decide +kernel
theorem dX6_readPlaces_19 : decode cX6_readPlaces 19 = .ok (.iload_n 3, 1) := by decide +kernel
theorem dX6_readPlaces_20 : decode cX6_readPlaces 20 = .ok (.bipush 32, 2) := by decide +kernel
theorem dX6_readPlaces_22 : decode cX6_readPlaces 22 = .ok (.if_icmp .le 11, 3) := by decide +kernel
theorem dX6_readPlaces_25 : decode cX6_readPlaces 25 = .ok (.aload_n 0, 1) := by decide +kernel
theorem dX6_readPlaces_26 : decode cX6_readPlaces 26 = .ok (.bipush 11, 2) := by decide +kernel
theorem dX6_readPlaces_28 : decode cX6_readPlaces 28 = .ok (.iload_n 2, 1) := by decide +kernel
theorem dX6_readPlaces_29 : decode cX6_readPlaces 29 = .ok (.invokevirtual 181, 3) := by decide +kernel
theorem dX6_readPlaces_32 : decode cX6_readPlaces 32 = .ok (.ireturn, 1) := by decide +kernel
theorem dX6_readPlaces_33 : decode cX6_readPlaces 33 = .ok (.aload_n 0, 1) := by decide +kernel
theorem dX6_readPlaces_34 : decode cX6_readPlaces 34 = .ok (.getfield 175, 3) := by decide +kernel
theorem dX6_readPlaces_37 : decode cX6_readPlaces 37 = .ok (.istore 4, 2) := by decide +kernel
theorem dX6_readPlaces_39 : decode cX6_readPlaces 39 = .ok (.aload_n 0, 1) := by decide +kernel
theorem dX6_readPlaces_40 : decode cX6_readPlaces 40 = .ok (.iload_n 1, 1) := by decide +kernel
theorem dX6_readPlaces_41 : decode cX6_readPlaces 41 = .ok (.iload_n 3, 1) := by decide +kernel
theorem dX6_readPlaces_42 : decode cX6_readPlaces 42 = .ok (.invokevirtual 266, 3) := by decide +kernel
theorem dX6_readPlaces_45 : decode cX6_readPlaces 45 = .ok (.ifCond .ne 5, 3) := by decide +kernel
theorem dX6_readPlaces_48 : decode cX6_readPlaces 48 = .ok (.iconst 0, 1) := by decide +kernel
theorem dX6_readPlaces_49 : decode cX6_readPlaces 49 = .ok (.ireturn, 1) := by decide +kernel
theorem dX6_readPlaces_50 : decode cX6_readPlaces 50 = .ok (.iconst 0, 1) := by decide +kernel
theorem dX6_readPlaces_51 : decode cX6_readPlaces 51 = .ok (.istore 5, 2) := by decide +kernel
theorem dX6_readPlaces_53 : decode cX6_readPlaces 53 = .ok (.iload 5, 2) := by decide +kernel
theorem dX6_readPlaces_55 : decode cX6_readPlaces 55 = .ok (.iload_n 1, 1) := by decide +kernel
theorem dX6_readPlaces_56 : decode cX6_readPlaces 56 = .ok (.if_icmp .ge 34, 3) := by decide +kernel
theorem dX6_readPlaces_59 : decode cX6_readPlaces 59 = .ok (.aload_n 0, 1) := by decide +kernel
theorem dX6_readPlaces_60 : decode cX6_readPlaces 60 = .ok (.getfield 42, 3) := by decide +kernel
theorem dX6_readPlaces_63 : decode cX6_readPlaces 63 = .ok (.iload 5, 2) := by decide +kernel
theorem dX6_readPlaces_65 : decode cX6_readPlaces 65 = .ok (.laload, 1) := by decide +kernel
theorem dX6_readPlaces_66 : decode cX6_readPlaces 66 = .ok (.aload_n 0, 1) := by decide +kernel
theorem dX6_readPlaces_67 : decode cX6_readPlaces 67 = .ok (.getfield 248, 3) := by decide +kernel
theorem dX6_readPlaces_70 : decode cX6_readPlaces 70 = .ok (.i2l, 1) := by decide +kernel
theorem dX6_readPlaces_71 : decode cX6_readPlaces 71 = .ok (.lcmp, 1) := by decide +kernel
theorem dX6_readPlaces_72 : decode cX6_readPlaces 72 = .ok (.ifCond .lt 12, 3) := by decide +kernel
theorem dX6_readPlaces_75 : decode cX6_readPlaces 75 = .ok (.aload_n 0, 1) := by decide +kernel
theorem dX6_readPlaces_76 : decode cX6_readPlaces 76 = .ok (.bipush 12, 2) := by decide +kernel
theorem dX6_readPlaces_78 : decode cX6_readPlaces 78 = .ok (.iload 4, 2) := by decide +kernel
theorem dX6_readPlaces_80 : decode cX6_readPlaces 80 = .ok (.invokevirtual 181, 3) := by decide +kernel
theorem dX6_readPlaces_83 : decode cX6_readPlaces 83 = .ok (.ireturn, 1) := by decide +kernel
theorem dX6_readPlaces_84 : decode cX6_readPlaces 84 = .ok (.iinc 5 1, 3) := by decide +kernel
theorem dX6_readPlaces_87 : decode cX6_readPlaces 87 = .ok (.goto (-34), 3) := by decide +kernel
theorem dX6_readPlaces_90 : decode cX6_readPlaces 90 = .ok (.iconst 0, 1) := by decide +kernel
theorem dX6_readPlaces_91 : decode cX6_readPlaces 91 = .ok (.istore 5, 2) := by decide +kernel
theorem dX6_readPlaces_93 : decode cX6_readPlaces 93 = .ok (.iload 5, 2) := by decide +kernel
theorem dX6_readPlaces_95 : decode cX6_readPlaces 95 = .ok (.iload_n 1, 1) := by decide +kernel
theorem dX6_readPlaces_96 : decode cX6_readPlaces 96 = .ok (.if_icmp .ge 41, 3) := by decide +kernel
theorem dX6_readPlaces_99 : decode cX6_readPlaces 99 = .ok (.aload_n 0, 1) := by decide +kernel
theorem dX6_readPlaces_100 : decode cX6_readPlaces 100 = .ok (.bipush 6, 2) := by decide +kernel
theorem dX6_readPlaces_102 : decode cX6_readPlaces 102 = .ok (.iconst 1, 1) := by decide +kernel
theorem dX6_readPlaces_103 : decode cX6_readPlaces 103 = .ok (.lconst 0, 1) := by decide +kernel
theorem dX6_readPlaces_104 : decode cX6_readPlaces 104 = .ok (.invokevirtual 70, 3) := by decide +kernel
theorem dX6_readPlaces_107 : decode cX6_readPlaces 107 = .ok (.istore 6, 2) := by decide +kernel
theorem dX6_readPlaces_109 : decode cX6_readPlaces 109 = .ok (.aload_n 0, 1) := by decide +kernel
theorem dX6_readPlaces_110 : decode cX6_readPlaces 110 = .ok (.sipush 1200, 3) := by decide +kernel
theorem dX6_readPlaces_113 : decode cX6_readPlaces 113 = .ok (.iload 6, 2) := by decide +kernel
theorem dX6_readPlaces_115 : decode cX6_readPlaces 115 = .ok (.iadd, 1) := by decide +kernel
theorem dX6_readPlaces_116 : decode cX6_readPlaces 116 = .ok (.sipush 1000, 3) := by decide +kernel
theorem dX6_readPlaces_119 : decode cX6_readPlaces 119 = .ok (.aload_n 0, 1) := by decide +kernel
theorem dX6_readPlaces_120 : decode cX6_readPlaces 120 = .ok (.getfield 42, 3) := by decide +kernel
theorem dX6_readPlaces_123 : decode cX6_readPlaces 123 = .ok (.iload 5, 2) := by decide +kernel
theorem dX6_readPlaces_125 : decode cX6_readPlaces 125 = .ok (.laload, 1) := by decide +kernel
theorem dX6_readPlaces_126 : decode cX6_readPlaces 126 = .ok (.l2i, 1) := by decide +kernel
theorem dX6_readPlaces_127 : decode cX6_readPlaces 127 = .ok (.iadd, 1) := by decide +kernel
theorem dX6_readPlaces_128 : decode cX6_readPlaces 128 = .ok (.invokevirtual 82, 3) := by decide +kernel
theorem dX6_readPlaces_131 : decode cX6_readPlaces 131 = .ok (.iinc 5 1, 3) := by decide +kernel
theorem dX6_readPlaces_134 : decode cX6_readPlaces 134 = .ok (.goto (-41), 3) := by decide +kernel
theorem dX6_readPlaces_137 : decode cX6_readPlaces 137 = .ok (.iconst 1, 1) := by decide +kernel
theorem dX6_readPlaces_138 : decode cX6_readPlaces 138 = .ok (.ireturn, 1) := by decide +kernel
theorem dX6_read_0 : decode cX6_read 0 = .ok (.iload_n 1, 1) := by decide +kernel
theorem dX6_read_1 : decode cX6_read 1 = .ok (.invokestatic 66, 3) := by decide +kernel
theorem dX6_read_4 : decode cX6_read 4 = .ok (.ifCond .ne 5, 3) := by decide +kernel
theorem dX6_read_7 : decode cX6_read 7 = .ok (.iconst (-1), 1) := by decide +kernel
theorem dX6_read_8 : decode cX6_read 8 = .ok (.ireturn, 1) := by decide +kernel
theorem dX6_read_9 : decode cX6_read 9 = .ok (.aload_n 0, 1) := by decide +kernel
theorem dX6_read_10 : decode cX6_read 10 = .ok (.iconst 1, 1) := by decide +kernel
theorem dX6_read_11 : decode cX6_read 11 = .ok (.putfield 284, 3) := by decide +kernel
theorem dX6_read_14 : decode cX6_read 14 = .ok (.aload_n 0, 1) := by decide +kernel
theorem dX6_read_15 : decode cX6_read 15 = .ok (.iconst 0, 1) := by decide +kernel
theorem dX6_read_16 : decode cX6_read 16 = .ok (.putfield 263, 3) := by decide +kernel
theorem dX6_read_19 : decode cX6_read 19 = .ok (.aload_n 0, 1) := by decide +kernel
theorem dX6_read_20 : decode cX6_read 20 = .ok (.iconst (-1), 1) := by decide +kernel
theorem dX6_read_21 : decode cX6_read 21 = .ok (.putfield 248, 3) := by decide +kernel
theorem dX6_read_24 : decode cX6_read 24 = .ok (.aload_n 0, 1) := by decide +kernel
theorem dX6_read_25 : decode cX6_read 25 = .ok (.getfield 17, 3) := by decide +kernel
theorem dX6_read_28 : decode cX6_read 28 = .ok (.iconst 4, 1) := by decide +kernel
theorem dX6_read_29 : decode cX6_read 29 = .ok (.iconst 0, 1) := by decide +kernel
theorem dX6_read_30 : decode cX6_read 30 = .ok (.iastore, 1) := by decide +kernel
theorem dX6_read_31 : decode cX6_read 31 = .ok (.aload_n 0, 1) := by decide +kernel
theorem dX6_read_32 : decode cX6_read 32 = .ok (.getfield 17, 3) := by decide +kernel
theorem dX6_read_35 : decode cX6_read 35 = .ok (.iconst 5, 1) := by decide +kernel
theorem dX6_read_36 : decode cX6_read 36 = .ok (.iconst 0, 1) := by decide +kernel
theorem dX6_read_37 : decode cX6_read 37 = .ok (.iastore, 1) := by decide +kernel
theorem dX6_read_38 : decode cX6_read 38 = .ok (.aload_n 0, 1) := by decide +kernel
theorem dX6_read_39 : decode cX6_read 39 = .ok (.iconst 0, 1) := by decide +kernel
theorem dX6_read_40 : decode cX6_read 40 = .ok (.putfield 175, 3) := by decide +kernel
theorem dX6_read_43 : decode cX6_read 43 = .ok (.aload_n 0, 1) := by decide +kernel
theorem dX6_read_44 : decode cX6_read 44 = .ok (.iconst 0, 1) := by decide +kernel
theorem dX6_read_45 : decode cX6_read 45 = .ok (.putfield 169, 3) := by decide +kernel
theorem dX6_read_48 : decode cX6_read 48 = .ok (.aload_n 0, 1) := by decide +kernel
theorem dX6_read_49 : decode cX6_read 49 = .ok (.iconst 0, 1) := by decide +kernel
theorem dX6_read_50 : decode cX6_read 50 = .ok (.putfield 172, 3) := by decide +kernel
theorem dX6_read_53 : decode cX6_read 53 = .ok (.aload_n 0, 1) := by decide +kernel
theorem dX6_read_54 : decode cX6_read 54 = .ok (.getfield 175, 3) := by decide +kernel
theorem dX6_read_57 : decode cX6_read 57 = .ok (.aload_n 0, 1) := by decide +kernel
theorem dX6_read_58 : decode cX6_read 58 = .ok (.getfield 166, 3) := by decide +kernel
theorem dX6_read_61 : decode cX6_read 61 = .ok (.if_icmp .ge 30, 3) := by decide +kernel
theorem dX6_read_64 : decode cX6_read 64 = .ok (.aload_n 0, 1) := by decide +kernel
theorem dX6_read_65 : decode cX6_read 65 = .ok (.aload_n 0, 1) := by decide +kernel
theorem dX6_read_66 : decode cX6_read 66 = .ok (.getfield 7, 3) := by decide +kernel
theorem dX6_read_69 : decode cX6_read 69 = .ok (.iload_n 1, 1) := by decide +kernel
theorem dX6_read_70 : decode cX6_read 70 = .ok (.iaload, 1) := by decide +kernel
theorem dX6_read_71 : decode cX6_read 71 = .ok (.aload_n 0, 1) := by decide +kernel
theorem dX6_read_72 : decode cX6_read 72 = .ok (.getfield 13, 3) := by decide +kernel
theorem dX6_read_75 : decode cX6_read 75 = .ok (.iload_n 1, 1) := by decide +kernel
theorem dX6_read_76 : decode cX6_read 76 = .ok (.baload, 1) := by decide +kernel
theorem dX6_read_77 : decode cX6_read 77 = .ok (.invokevirtual 288, 3) := by decide +kernel
theorem dX6_read_80 : decode cX6_read 80 = .ok (.ifCond .ne (-27), 3) := by decide +kernel
theorem dX6_read_83 : decode cX6_read 83 = .ok (.bipush (-10), 2) := by decide +kernel
theorem dX6_read_85 : decode cX6_read 85 = .ok (.aload_n 0, 1) := by decide +kernel
theorem dX6_read_86 : decode cX6_read 86 = .ok (.getfield 169, 3) := by decide +kernel
theorem dX6_read_89 : decode cX6_read 89 = .ok (.isub, 1) := by decide +kernel
theorem dX6_read_90 : decode cX6_read 90 = .ok (.ireturn, 1) := by decide +kernel
theorem dX6_read_91 : decode cX6_read 91 = .ok (.aload_n 0, 1) := by decide +kernel
theorem dX6_read_92 : decode cX6_read 92 = .ok (.getfield 17, 3) := by decide +kernel
theorem dX6_read_95 : decode cX6_read 95 = .ok (.iload_n 1, 1) := by decide +kernel
theorem dX6_read_96 : decode cX6_read 96 = .ok (.aload_n 0, 1) := by decide +kernel
theorem dX6_read_97 : decode cX6_read 97 = .ok (.getfield 17, 3) := by decide +kernel
theorem dX6_read_100 : decode cX6_read 100 = .ok (.iconst 4, 1) := by decide +kernel
theorem dX6_read_101 : decode cX6_read 101 = .ok (.iaload, 1) := by decide +kernel
theorem dX6_read_102 : decode cX6_read 102 = .ok (.iastore, 1) := by decide +kernel
theorem dX6_read_103 : decode cX6_read 103 = .ok (.iconst 0, 1) := by decide +kernel
theorem dX6_read_104 : decode cX6_read 104 = .ok (.istore_n 2, 1) := by decide +kernel
theorem dX6_read_105 : decode cX6_read 105 = .ok (.iload_n 2, 1) := by decide +kernel
theorem dX6_read_106 : decode cX6_read 106 = .ok (.aload_n 0, 1) := by decide +kernel
theorem dX6_read_107 : decode cX6_read 107 = .ok (.getfield 17, 3) := by decide +kernel
theorem dX6_read_110 : decode cX6_read 110 = .ok (.iconst 4, 1) := by decide +kernel
theorem dX6_read_111 : decode cX6_read 111 = .ok (.iaload, 1) := by decide +kernel
theorem dX6_read_112 : decode cX6_read 112 = .ok (.if_icmp .ge 25, 3) := by decide +kernel
theorem dX6_read_115 : decode cX6_read 115 = .ok (.aload_n 0, 1) := by decide +kernel
theorem dX6_read_116 : decode cX6_read 116 = .ok (.sipush 200, 3) := by decide +kernel
theorem dX6_read_119 : decode cX6_read 119 = .ok (.iload_n 1, 1) := by decide +kernel
theorem dX6_read_120 : decode cX6_read 120 = .ok (.imul, 1) := by decide +kernel
theorem dX6_read_121 : decode cX6_read 121 = .ok (.iload_n 2, 1) := by decide +kernel
theorem dX6_read_122 : decode cX6_read 122 = .ok (.iadd, 1) := by decide +kernel
theorem dX6_read_123 : decode cX6_read 123 = .ok (.sipush 800, 3) := by decide +kernel
theorem dX6_read_126 : decode cX6_read 126 = .ok (.iload_n 2, 1) := by decide +kernel
theorem dX6_read_127 : decode cX6_read 127 = .ok (.iadd, 1) := by decide +kernel
theorem dX6_read_128 : decode cX6_read 128 = .ok (.invokevirtual 82, 3) := by decide +kernel
theorem dX6_read_131 : decode cX6_read 131 = .ok (.iinc 2 1, 3) := by decide +kernel
theorem dX6_read_134 : decode cX6_read 134 = .ok (.goto (-29), 3) := by decide +kernel
theorem dX6_read_137 : decode cX6_read 137 = .ok (.aload_n 0, 1) := by decide +kernel
theorem dX6_read_138 : decode cX6_read 138 = .ok (.getfield 17, 3) := by decide +kernel
theorem dX6_read_141 : decode cX6_read 141 = .ok (.iload_n 1, 1) := by decide +kernel
theorem dX6_read_142 : decode cX6_read 142 = .ok (.iaload, 1) := by decide +kernel
theorem dX6_read_143 : decode cX6_read 143 = .ok (.ireturn, 1) := by decide +kernel
theorem dX6_fault_0 : decode cX6_fault 0 = .ok (.iload_n 1, 1) := by decide +kernel
theorem dX6_fault_1 : decode cX6_fault 1 = .ok (.i2l, 1) := by decide +kernel
theorem dX6_fault_2 : decode cX6_fault 2 = .ok (.lconst 0, 1) := by decide +kernel
theorem dX6_fault_3 : decode cX6_fault 3 = .ok (.ldc2_w 60, 3) := by decide +kernel
theorem dX6_fault_6 : decode cX6_fault 6 = .ok (.invokestatic 62, 3) := by decide +kernel
theorem dX6_fault_9 : decode cX6_fault 9 = .ok (.ifCond .ne 5, 3) := by decide +kernel
theorem dX6_fault_12 : decode cX6_fault 12 = .ok (.iconst (-1), 1) := by decide +kernel
theorem dX6_fault_13 : decode cX6_fault 13 = .ok (.ireturn, 1) := by decide +kernel
theorem dX6_fault_14 : decode cX6_fault 14 = .ok (.aload_n 0, 1) := by decide +kernel
theorem dX6_fault_15 : decode cX6_fault 15 = .ok (.getfield 284, 3) := by decide +kernel
theorem dX6_fault_18 : decode cX6_fault 18 = .ok (.ifCond .ne 5, 3) := by decide +kernel
theorem dX6_fault_21 : decode cX6_fault 21 = .ok (.iconst 0, 1) := by decide +kernel
theorem dX6_fault_22 : decode cX6_fault 22 = .ok (.ireturn, 1) := by decide +kernel
theorem dX6_fault_23 : decode cX6_fault 23 = .ok (.iload_n 1, 1) := by decide +kernel
theorem dX6_fault_24 : decode cX6_fault 24 = .ok (.ifCond .ne 10, 3) := by decide +kernel
theorem dX6_fault_27 : decode cX6_fault 27 = .ok (.aload_n 0, 1) := by decide +kernel
theorem dX6_fault_28 : decode cX6_fault 28 = .ok (.getfield 169, 3) := by decide +kernel
theorem dX6_fault_31 : decode cX6_fault 31 = .ok (.goto 42, 3) := by decide +kernel
theorem dX6_fault_34 : decode cX6_fault 34 = .ok (.iload_n 1, 1) := by decide +kernel
theorem dX6_fault_35 : decode cX6_fault 35 = .ok (.iconst 1, 1) := by decide +kernel
theorem dX6_fault_36 : decode cX6_fault 36 = .ok (.if_icmp .ne 10, 3) := by decide +kernel
theorem dX6_fault_39 : decode cX6_fault 39 = .ok (.aload_n 0, 1) := by decide +kernel
theorem dX6_fault_40 : decode cX6_fault 40 = .ok (.getfield 172, 3) := by decide +kernel
theorem dX6_fault_43 : decode cX6_fault 43 = .ok (.goto 30, 3) := by decide +kernel
theorem dX6_fault_46 : decode cX6_fault 46 = .ok (.iload_n 1, 1) := by decide +kernel
theorem dX6_fault_47 : decode cX6_fault 47 = .ok (.iconst 2, 1) := by decide +kernel
theorem dX6_fault_48 : decode cX6_fault 48 = .ok (.if_icmp .ne 10, 3) := by decide +kernel
theorem dX6_fault_51 : decode cX6_fault 51 = .ok (.aload_n 0, 1) := by decide +kernel
theorem dX6_fault_52 : decode cX6_fault 52 = .ok (.getfield 263, 3) := by decide +kernel
theorem dX6_fault_55 : decode cX6_fault 55 = .ok (.goto 18, 3) := by decide +kernel
theorem dX6_fault_58 : decode cX6_fault 58 = .ok (.aload_n 0, 1) := by decide +kernel
theorem dX6_fault_59 : decode cX6_fault 59 = .ok (.getfield 248, 3) := by decide +kernel
theorem dX6_fault_62 : decode cX6_fault 62 = .ok (.ifCond .ge 7, 3) := by decide +kernel
theorem dX6_fault_65 : decode cX6_fault 65 = .ok (.iconst 0, 1) := by decide +kernel
theorem dX6_fault_66 : decode cX6_fault 66 = .ok (.goto 7, 3) := by decide +kernel
theorem dX6_fault_69 : decode cX6_fault 69 = .ok (.aload_n 0, 1) := by decide +kernel
theorem dX6_fault_70 : decode cX6_fault 70 = .ok (.getfield 248, 3) := by decide +kernel
theorem dX6_fault_73 : decode cX6_fault 73 = .ok (.ireturn, 1) := by decide +kernel
theorem dX6_size_0 : decode cX6_size 0 = .ok (.aload_n 0, 1) := by decide +kernel
theorem dX6_size_1 : decode cX6_size 1 = .ok (.getfield 166, 3) := by decide +kernel
theorem dX6_size_4 : decode cX6_size 4 = .ok (.ireturn, 1) := by decide +kernel
theorem dX6_byteAt_0 : decode cX6_byteAt 0 = .ok (.iload_n 1, 1) := by decide +kernel
theorem dX6_byteAt_1 : decode cX6_byteAt 1 = .ok (.i2l, 1) := by decide +kernel
theorem dX6_byteAt_2 : decode cX6_byteAt 2 = .ok (.lconst 0, 1) := by decide +kernel
theorem dX6_byteAt_3 : decode cX6_byteAt 3 = .ok (.aload_n 0, 1) := by decide +kernel
theorem dX6_byteAt_4 : decode cX6_byteAt 4 = .ok (.getfield 166, 3) := by decide +kernel
theorem dX6_byteAt_7 : decode cX6_byteAt 7 = .ok (.iconst 1, 1) := by decide +kernel
theorem dX6_byteAt_8 : decode cX6_byteAt 8 = .ok (.isub, 1) := by decide +kernel
theorem dX6_byteAt_9 : decode cX6_byteAt 9 = .ok (.i2l, 1) := by decide +kernel
theorem dX6_byteAt_10 : decode cX6_byteAt 10 = .ok (.invokestatic 62, 3) := by decide +kernel
theorem dX6_byteAt_13 : decode cX6_byteAt 13 = .ok (.ifCond .eq 16, 3) := by decide +kernel
theorem dX6_byteAt_16 : decode cX6_byteAt 16 = .ok (.aload_n 0, 1) := by decide +kernel
theorem dX6_byteAt_17 : decode cX6_byteAt 17 = .ok (.getfield 35, 3) := by decide +kernel
theorem dX6_byteAt_20 : decode cX6_byteAt 20 = .ok (.iload_n 1, 1) := by decide +kernel
theorem dX6_byteAt_21 : decode cX6_byteAt 21 = .ok (.baload, 1) := by decide +kernel
theorem dX6_byteAt_22 : decode cX6_byteAt 22 = .ok (.sipush 255, 3) := by decide +kernel
theorem dX6_byteAt_25 : decode cX6_byteAt 25 = .ok (.iand, 1) := by decide +kernel
theorem dX6_byteAt_26 : decode cX6_byteAt 26 = .ok (.goto 4, 3) := by decide +kernel
theorem dX6_byteAt_29 : decode cX6_byteAt 29 = .ok (.iconst (-1), 1) := by decide +kernel
theorem dX6_byteAt_30 : decode cX6_byteAt 30 = .ok (.ireturn, 1) := by decide +kernel
theorem dX6_poke_0 : decode cX6_poke 0 = .ok (.iload_n 1, 1) := by decide +kernel
theorem dX6_poke_1 : decode cX6_poke 1 = .ok (.i2l, 1) := by decide +kernel
theorem dX6_poke_2 : decode cX6_poke 2 = .ok (.lconst 0, 1) := by decide +kernel
theorem dX6_poke_3 : decode cX6_poke 3 = .ok (.aload_n 0, 1) := by decide +kernel
theorem dX6_poke_4 : decode cX6_poke 4 = .ok (.getfield 166, 3) := by decide +kernel
theorem dX6_poke_7 : decode cX6_poke 7 = .ok (.iconst 1, 1) := by decide +kernel
theorem dX6_poke_8 : decode cX6_poke 8 = .ok (.isub, 1) := by decide +kernel
theorem dX6_poke_9 : decode cX6_poke 9 = .ok (.i2l, 1) := by decide +kernel
theorem dX6_poke_10 : decode cX6_poke 10 = .ok (.invokestatic 62, 3) := by decide +kernel
theorem dX6_poke_13 : decode cX6_poke 13 = .ok (.ifCond .ne 5, 3) := by decide +kernel
theorem dX6_poke_16 : decode cX6_poke 16 = .ok (.iconst (-1), 1) := by decide +kernel
theorem dX6_poke_17 : decode cX6_poke 17 = .ok (.ireturn, 1) := by decide +kernel
theorem dX6_poke_18 : decode cX6_poke 18 = .ok (.aload_n 0, 1) := by decide +kernel
theorem dX6_poke_19 : decode cX6_poke 19 = .ok (.getfield 35, 3) := by decide +kernel
theorem dX6_poke_22 : decode cX6_poke 22 = .ok (.iload_n 1, 1) := by decide +kernel
theorem dX6_poke_23 : decode cX6_poke 23 = .ok (.aload_n 0, 1) := by decide +kernel
theorem dX6_poke_24 : decode cX6_poke 24 = .ok (.getfield 35, 3) := by decide +kernel
theorem dX6_poke_27 : decode cX6_poke 27 = .ok (.iload_n 1, 1) := by decide +kernel
theorem dX6_poke_28 : decode cX6_poke 28 = .ok (.baload, 1) := by decide +kernel
theorem dX6_poke_29 : decode cX6_poke 29 = .ok (.iload_n 2, 1) := by decide +kernel
theorem dX6_poke_30 : decode cX6_poke 30 = .ok (.ixor, 1) := by decide +kernel
theorem dX6_poke_31 : decode cX6_poke 31 = .ok (.i2b, 1) := by decide +kernel
theorem dX6_poke_32 : decode cX6_poke 32 = .ok (.bastore, 1) := by decide +kernel
theorem dX6_poke_33 : decode cX6_poke 33 = .ok (.aload_n 0, 1) := by decide +kernel
theorem dX6_poke_34 : decode cX6_poke 34 = .ok (.getfield 35, 3) := by decide +kernel
theorem dX6_poke_37 : decode cX6_poke 37 = .ok (.iload_n 1, 1) := by decide +kernel
theorem dX6_poke_38 : decode cX6_poke 38 = .ok (.baload, 1) := by decide +kernel
theorem dX6_poke_39 : decode cX6_poke 39 = .ok (.sipush 255, 3) := by decide +kernel
theorem dX6_poke_42 : decode cX6_poke 42 = .ok (.iand, 1) := by decide +kernel
theorem dX6_poke_43 : decode cX6_poke 43 = .ok (.ireturn, 1) := by decide +kernel
theorem dX6_cut_0 : decode cX6_cut 0 = .ok (.iload_n 1, 1) := by decide +kernel
theorem dX6_cut_1 : decode cX6_cut 1 = .ok (.i2l, 1) := by decide +kernel
theorem dX6_cut_2 : decode cX6_cut 2 = .ok (.lconst 0, 1) := by decide +kernel
theorem dX6_cut_3 : decode cX6_cut 3 = .ok (.aload_n 0, 1) := by decide +kernel
theorem dX6_cut_4 : decode cX6_cut 4 = .ok (.getfield 166, 3) := by decide +kernel
theorem dX6_cut_7 : decode cX6_cut 7 = .ok (.i2l, 1) := by decide +kernel
theorem dX6_cut_8 : decode cX6_cut 8 = .ok (.invokestatic 62, 3) := by decide +kernel
theorem dX6_cut_11 : decode cX6_cut 11 = .ok (.ifCond .ne 5, 3) := by decide +kernel
theorem dX6_cut_14 : decode cX6_cut 14 = .ok (.iconst (-1), 1) := by decide +kernel
theorem dX6_cut_15 : decode cX6_cut 15 = .ok (.ireturn, 1) := by decide +kernel
theorem dX6_cut_16 : decode cX6_cut 16 = .ok (.aload_n 0, 1) := by decide +kernel
theorem dX6_cut_17 : decode cX6_cut 17 = .ok (.getfield 166, 3) := by decide +kernel
theorem dX6_cut_20 : decode cX6_cut 20 = .ok (.iload_n 1, 1) := by decide +kernel
theorem dX6_cut_21 : decode cX6_cut 21 = .ok (.isub, 1) := by decide +kernel
theorem dX6_cut_22 : decode cX6_cut 22 = .ok (.istore_n 2, 1) := by decide +kernel
theorem dX6_cut_23 : decode cX6_cut 23 = .ok (.aload_n 0, 1) := by decide +kernel
theorem dX6_cut_24 : decode cX6_cut 24 = .ok (.iload_n 1, 1) := by decide +kernel
theorem dX6_cut_25 : decode cX6_cut 25 = .ok (.putfield 166, 3) := by decide +kernel
theorem dX6_cut_28 : decode cX6_cut 28 = .ok (.iload_n 2, 1) := by decide +kernel
theorem dX6_cut_29 : decode cX6_cut 29 = .ok (.ireturn, 1) := by decide +kernel
theorem dX6_put_0 : decode cX6_put 0 = .ok (.iload_n 3, 1) := by decide +kernel
theorem dX6_put_1 : decode cX6_put 1 = .ok (.i2l, 1) := by decide +kernel
theorem dX6_put_2 : decode cX6_put 2 = .ok (.lconst 1, 1) := by decide +kernel
theorem dX6_put_3 : decode cX6_put 3 = .ok (.ldc2_w 74, 3) := by decide +kernel
theorem dX6_put_6 : decode cX6_put 6 = .ok (.invokestatic 62, 3) := by decide +kernel
theorem dX6_put_9 : decode cX6_put 9 = .ok (.ifCond .ne 5, 3) := by decide +kernel
theorem dX6_put_12 : decode cX6_put 12 = .ok (.iconst (-1), 1) := by decide +kernel
theorem dX6_put_13 : decode cX6_put 13 = .ok (.ireturn, 1) := by decide +kernel
theorem dX6_put_14 : decode cX6_put 14 = .ok (.aload_n 0, 1) := by decide +kernel
theorem dX6_put_15 : decode cX6_put 15 = .ok (.getfield 166, 3) := by decide +kernel
theorem dX6_put_18 : decode cX6_put 18 = .ok (.iload_n 3, 1) := by decide +kernel
theorem dX6_put_19 : decode cX6_put 19 = .ok (.iadd, 1) := by decide +kernel
theorem dX6_put_20 : decode cX6_put 20 = .ok (.sipush 12000, 3) := by decide +kernel
theorem dX6_put_23 : decode cX6_put 23 = .ok (.if_icmp .le 6, 3) := by decide +kernel
theorem dX6_put_26 : decode cX6_put 26 = .ok (.bipush (-3), 2) := by decide +kernel
theorem dX6_put_28 : decode cX6_put 28 = .ok (.ireturn, 1) := by decide +kernel
theorem dX6_put_29 : decode cX6_put 29 = .ok (.iconst 0, 1) := by decide +kernel
theorem dX6_put_30 : decode cX6_put 30 = .ok (.istore 4, 2) := by decide +kernel
theorem dX6_put_32 : decode cX6_put 32 = .ok (.iload 4, 2) := by decide +kernel
theorem dX6_put_34 : decode cX6_put 34 = .ok (.iload_n 3, 1) := by decide +kernel
theorem dX6_put_35 : decode cX6_put 35 = .ok (.if_icmp .ge 37, 3) := by decide +kernel
theorem dX6_put_38 : decode cX6_put 38 = .ok (.aload_n 0, 1) := by decide +kernel
theorem dX6_put_39 : decode cX6_put 39 = .ok (.getfield 35, 3) := by decide +kernel
theorem dX6_put_42 : decode cX6_put 42 = .ok (.aload_n 0, 1) := by decide +kernel
theorem dX6_put_43 : decode cX6_put 43 = .ok (.getfield 166, 3) := by decide +kernel
theorem dX6_put_46 : decode cX6_put 46 = .ok (.lload_n 1, 1) := by decide +kernel
theorem dX6_put_47 : decode cX6_put 47 = .ok (.bipush 8, 2) := by decide +kernel
theorem dX6_put_49 : decode cX6_put 49 = .ok (.iload 4, 2) := by decide +kernel
theorem dX6_put_51 : decode cX6_put 51 = .ok (.imul, 1) := by decide +kernel
theorem dX6_put_52 : decode cX6_put 52 = .ok (.lshr, 1) := by decide +kernel
theorem dX6_put_53 : decode cX6_put 53 = .ok (.l2i, 1) := by decide +kernel
theorem dX6_put_54 : decode cX6_put 54 = .ok (.i2b, 1) := by decide +kernel
theorem dX6_put_55 : decode cX6_put 55 = .ok (.bastore, 1) := by decide +kernel
theorem dX6_put_56 : decode cX6_put 56 = .ok (.aload_n 0, 1) := by decide +kernel
theorem dX6_put_57 : decode cX6_put 57 = .ok (.dup, 1) := by decide +kernel
theorem dX6_put_58 : decode cX6_put 58 = .ok (.getfield 166, 3) := by decide +kernel
theorem dX6_put_61 : decode cX6_put 61 = .ok (.iconst 1, 1) := by decide +kernel
theorem dX6_put_62 : decode cX6_put 62 = .ok (.iadd, 1) := by decide +kernel
theorem dX6_put_63 : decode cX6_put 63 = .ok (.putfield 166, 3) := by decide +kernel
theorem dX6_put_66 : decode cX6_put 66 = .ok (.iinc 4 1, 3) := by decide +kernel
theorem dX6_put_69 : decode cX6_put 69 = .ok (.goto (-37), 3) := by decide +kernel
theorem dX6_put_72 : decode cX6_put 72 = .ok (.aload_n 0, 1) := by decide +kernel
theorem dX6_put_73 : decode cX6_put 73 = .ok (.getfield 166, 3) := by decide +kernel
theorem dX6_put_76 : decode cX6_put 76 = .ok (.ireturn, 1) := by decide +kernel
