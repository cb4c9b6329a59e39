theorem dX5_init_0 : decode cX5_init 0 = .ok (.aload_n 0, 1) := by decide +kernel
theorem dX5_init_1 : decode cX5_init 1 = .ok (.invokespecial 1, 3) := by decide +kernel
theorem dX5_init_4 : decode cX5_init 4 = .ok (.aload_n 0, 1) := by decide +kernel
theorem dX5_init_5 : decode cX5_init 5 = .ok (.iconst 4, 1) := by decide +kernel
theorem dX5_init_6 : decode cX5_init 6 = .ok (.anewarray 9, 3) := by decide +kernel
theorem dX5_init_9 : decode cX5_init 9 = .ok (.putfield 11, 3) := by decide +kernel
theorem dX5_init_12 : decode cX5_init 12 = .ok (.iconst 0, 1) := by decide +kernel
theorem dX5_init_13 : decode cX5_init 13 = .ok (.istore_n 1, 1) := by decide +kernel
theorem dX5_init_14 : decode cX5_init 14 = .ok (.iload_n 1, 1) := by decide +kernel
theorem dX5_init_15 : decode cX5_init 15 = .ok (.iconst 4, 1) := by decide +kernel
theorem dX5_init_16 : decode cX5_init 16 = .ok (.if_icmp .ge 22, 3) := by decide +kernel
theorem dX5_init_19 : decode cX5_init 19 = .ok (.aload_n 0, 1) := by decide +kernel
theorem dX5_init_20 : decode cX5_init 20 = .ok (.getfield 11, 3) := by decide +kernel
theorem dX5_init_23 : decode cX5_init 23 = .ok (.iload_n 1, 1) := by decide +kernel
theorem dX5_init_24 : decode cX5_init 24 = .ok (.new 9, 3) := by decide +kernel
theorem dX5_init_27 : decode cX5_init 27 = .ok (.dup, 1) := by decide +kernel
theorem dX5_init_28 : decode cX5_init 28 = .ok (.invokespecial 15, 3) := by decide +kernel
theorem dX5_init_31 : decode cX5_init 31 = .ok (.aastore, 1) := by decide +kernel
theorem dX5_init_32 : decode cX5_init 32 = .ok (.iinc 1 1, 3) := by decide +kernel
theorem dX5_init_35 : decode cX5_init 35 = .ok (.goto (-21), 3) := by decide +kernel
theorem dX5_init_38 : decode cX5_init 38 = .ok (.aload_n 0, 1) := by decide +kernel
theorem dX5_init_39 : decode cX5_init 39 = .ok (.new 16, 3) := by decide +kernel
theorem dX5_init_42 : decode cX5_init 42 = .ok (.dup, 1) := by decide +kernel
theorem dX5_init_43 : decode cX5_init 43 = .ok (.bipush 40, 2) := by decide +kernel
theorem dX5_init_45 : decode cX5_init 45 = .ok (.invokespecial 18, 3) := by decide +kernel
theorem dX5_init_48 : decode cX5_init 48 = .ok (.putfield 21, 3) := by decide +kernel
theorem dX5_init_51 : decode cX5_init 51 = .ok (.aload_n 0, 1) := by decide +kernel
theorem dX5_init_52 : decode cX5_init 52 = .ok (.new 16, 3) := by decide +kernel
theorem dX5_init_55 : decode cX5_init 55 = .ok (.dup, 1) := by decide +kernel
theorem dX5_init_56 : decode cX5_init 56 = .ok (.sipush 12000, 3) := by decide +kernel
theorem dX5_init_59 : decode cX5_init 59 = .ok (.invokespecial 18, 3) := by decide +kernel
theorem dX5_init_62 : decode cX5_init 62 = .ok (.putfield 25, 3) := by decide +kernel
theorem dX5_init_65 : decode cX5_init 65 = .ok (.aload_n 0, 1) := by decide +kernel
theorem dX5_init_66 : decode cX5_init 66 = .ok (.new 28, 3) := by decide +kernel
theorem dX5_init_69 : decode cX5_init 69 = .ok (.dup, 1) := by decide +kernel
theorem dX5_init_70 : decode cX5_init 70 = .ok (.invokespecial 30, 3) := by decide +kernel
theorem dX5_init_73 : decode cX5_init 73 = .ok (.putfield 31, 3) := by decide +kernel
theorem dX5_init_76 : decode cX5_init 76 = .ok (.aload_n 0, 1) := by decide +kernel
theorem dX5_init_77 : decode cX5_init 77 = .ok (.new 35, 3) := by decide +kernel
theorem dX5_init_80 : decode cX5_init 80 = .ok (.dup, 1) := by decide +kernel
theorem dX5_init_81 : decode cX5_init 81 = .ok (.invokespecial 37, 3) := by decide +kernel
theorem dX5_init_84 : decode cX5_init 84 = .ok (.putfield 38, 3) := by decide +kernel
theorem dX5_init_87 : decode cX5_init 87 = .ok (.return_, 1) := by decide +kernel
theorem dX5_column_0 : decode cX5_column 0 = .ok (.aload_n 0, 1) := by decide +kernel
theorem dX5_column_1 : decode cX5_column 1 = .ok (.iload_n 1, 1) := by decide +kernel
theorem dX5_column_2 : decode cX5_column 2 = .ok (.invokevirtual 42, 3) := by decide +kernel
theorem dX5_column_5 : decode cX5_column 5 = .ok (.astore 4, 2) := by decide +kernel
theorem dX5_column_7 : decode cX5_column 7 = .ok (.aload 4, 2) := by decide +kernel
theorem dX5_column_9 : decode cX5_column 9 = .ok (.ifnull 12, 3) := by decide +kernel
theorem dX5_column_12 : decode cX5_column 12 = .ok (.iload_n 2, 1) := by decide +kernel
theorem dX5_column_13 : decode cX5_column 13 = .ok (.ifCond .lt 8, 3) := by decide +kernel
theorem dX5_column_16 : decode cX5_column 16 = .ok (.iload_n 2, 1) := by decide +kernel
theorem dX5_column_17 : decode cX5_column 17 = .ok (.iconst 3, 1) := by decide +kernel
theorem dX5_column_18 : decode cX5_column 18 = .ok (.if_icmp .le 5, 3) := by decide +kernel
theorem dX5_column_21 : decode cX5_column 21 = .ok (.iconst (-1), 1) := by decide +kernel
theorem dX5_column_22 : decode cX5_column 22 = .ok (.ireturn, 1) := by decide +kernel
theorem dX5_column_23 : decode cX5_column 23 = .ok (.aload 4, 2) := by decide +kernel
theorem dX5_column_25 : decode cX5_column 25 = .ok (.getfield 46, 3) := by decide +kernel
theorem dX5_column_28 : decode cX5_column 28 = .ok (.istore 5, 2) := by decide +kernel
theorem dX5_column_30 : decode cX5_column 30 = .ok (.aload 4, 2) := by decide +kernel
theorem dX5_column_32 : decode cX5_column 32 = .ok (.iload_n 2, 1) := by decide +kernel
theorem dX5_column_33 : decode cX5_column 33 = .ok (.iload_n 3, 1) := by decide +kernel
theorem dX5_column_34 : decode cX5_column 34 = .ok (.invokevirtual 50, 3) := by decide +kernel
theorem dX5_column_37 : decode cX5_column 37 = .ok (.iload 5, 2) := by decide +kernel
theorem dX5_column_39 : decode cX5_column 39 = .ok (.ireturn, 1) := by decide +kernel
theorem dX5_add_0 : decode cX5_add 0 = .ok (.aload_n 0, 1) := by decide +kernel
theorem dX5_add_1 : decode cX5_add 1 = .ok (.iload_n 1, 1) := by decide +kernel
theorem dX5_add_2 : decode cX5_add 2 = .ok (.invokevirtual 42, 3) := by decide +kernel
theorem dX5_add_5 : decode cX5_add 5 = .ok (.astore 4, 2) := by decide +kernel
theorem dX5_add_7 : decode cX5_add 7 = .ok (.aload 4, 2) := by decide +kernel
theorem dX5_add_9 : decode cX5_add 9 = .ok (.ifnonnull 5, 3) := by decide +kernel
theorem dX5_add_12 : decode cX5_add 12 = .ok (.iconst (-1), 1) := by decide +kernel
theorem dX5_add_13 : decode cX5_add 13 = .ok (.ireturn, 1) := by decide +kernel
theorem dX5_add_14 : decode cX5_add 14 = .ok (.aload 4, 2) := by decide +kernel
theorem dX5_add_16 : decode cX5_add 16 = .ok (.getfield 54, 3) := by decide +kernel
theorem dX5_add_19 : decode cX5_add 19 = .ok (.iconst 2, 1) := by decide +kernel
theorem dX5_add_20 : decode cX5_add 20 = .ok (.if_icmp .ne 6, 3) := by decide +kernel
theorem dX5_add_23 : decode cX5_add 23 = .ok (.bipush (-2), 2) := by decide +kernel
theorem dX5_add_25 : decode cX5_add 25 = .ok (.ireturn, 1) := by decide +kernel
theorem dX5_add_26 : decode cX5_add 26 = .ok (.aload 4, 2) := by decide +kernel
theorem dX5_add_28 : decode cX5_add 28 = .ok (.getfield 46, 3) := by decide +kernel
theorem dX5_add_31 : decode cX5_add 31 = .ok (.sipush 200, 3) := by decide +kernel
theorem dX5_add_34 : decode cX5_add 34 = .ok (.if_icmp .lt 6, 3) := by decide +kernel
theorem dX5_add_37 : decode cX5_add 37 = .ok (.bipush (-3), 2) := by decide +kernel
theorem dX5_add_39 : decode cX5_add 39 = .ok (.ireturn, 1) := by decide +kernel
theorem dX5_add_40 : decode cX5_add 40 = .ok (.aload 4, 2) := by decide +kernel
theorem dX5_add_42 : decode cX5_add 42 = .ok (.lload_n 2, 1) := by decide +kernel
theorem dX5_add_43 : decode cX5_add 43 = .ok (.invokevirtual 57, 3) := by decide +kernel
theorem dX5_add_46 : decode cX5_add 46 = .ok (.aload 4, 2) := by decide +kernel
theorem dX5_add_48 : decode cX5_add 48 = .ok (.getfield 46, 3) := by decide +kernel
theorem dX5_add_51 : decode cX5_add 51 = .ok (.iconst 1, 1) := by decide +kernel
theorem dX5_add_52 : decode cX5_add 52 = .ok (.isub, 1) := by decide +kernel
theorem dX5_add_53 : decode cX5_add 53 = .ok (.ireturn, 1) := by decide +kernel
theorem dX5_type_0 : decode cX5_type 0 = .ok (.iload_n 3, 1) := by decide +kernel
theorem dX5_type_1 : decode cX5_type 1 = .ok (.iconst 1, 1) := by decide +kernel
theorem dX5_type_2 : decode cX5_type 2 = .ok (.if_icmp .lt 9, 3) := by decide +kernel
theorem dX5_type_5 : decode cX5_type 5 = .ok (.iload_n 3, 1) := by decide +kernel
theorem dX5_type_6 : decode cX5_type 6 = .ok (.bipush 8, 2) := by decide +kernel
theorem dX5_type_8 : decode cX5_type 8 = .ok (.if_icmp .le 5, 3) := by decide +kernel
theorem dX5_type_11 : decode cX5_type 11 = .ok (.iconst (-1), 1) := by decide +kernel
theorem dX5_type_12 : decode cX5_type 12 = .ok (.ireturn, 1) := by decide +kernel
theorem dX5_type_13 : decode cX5_type 13 = .ok (.aload_n 0, 1) := by decide +kernel
theorem dX5_type_14 : decode cX5_type 14 = .ok (.getfield 21, 3) := by decide +kernel
theorem dX5_type_17 : decode cX5_type 17 = .ok (.getfield 61, 3) := by decide +kernel
theorem dX5_type_20 : decode cX5_type 20 = .ok (.iload_n 3, 1) := by decide +kernel
theorem dX5_type_21 : decode cX5_type 21 = .ok (.iadd, 1) := by decide +kernel
theorem dX5_type_22 : decode cX5_type 22 = .ok (.bipush 40, 2) := by decide +kernel
theorem dX5_type_24 : decode cX5_type 24 = .ok (.if_icmp .le 6, 3) := by decide +kernel
theorem dX5_type_27 : decode cX5_type 27 = .ok (.bipush (-3), 2) := by decide +kernel
theorem dX5_type_29 : decode cX5_type 29 = .ok (.ireturn, 1) := by decide +kernel
theorem dX5_type_30 : decode cX5_type 30 = .ok (.iload_n 3, 1) := by decide +kernel
theorem dX5_type_31 : decode cX5_type 31 = .ok (.iconst 1, 1) := by decide +kernel
theorem dX5_type_32 : decode cX5_type 32 = .ok (.isub, 1) := by decide +kernel
theorem dX5_type_33 : decode cX5_type 33 = .ok (.istore 4, 2) := by decide +kernel
theorem dX5_type_35 : decode cX5_type 35 = .ok (.iload 4, 2) := by decide +kernel
theorem dX5_type_37 : decode cX5_type 37 = .ok (.ifCond .lt 24, 3) := by decide +kernel
theorem dX5_type_40 : decode cX5_type 40 = .ok (.aload_n 0, 1) := by decide +kernel
theorem dX5_type_41 : decode cX5_type 41 = .ok (.getfield 21, 3) := by decide +kernel
theorem dX5_type_44 : decode cX5_type 44 = .ok (.lload_n 1, 1) := by decide +kernel
theorem dX5_type_45 : decode cX5_type 45 = .ok (.bipush 8, 2) := by decide +kernel
theorem dX5_type_47 : decode cX5_type 47 = .ok (.iload 4, 2) := by decide +kernel
theorem dX5_type_49 : decode cX5_type 49 = .ok (.imul, 1) := by decide +kernel
theorem dX5_type_50 : decode cX5_type 50 = .ok (.lushr, 1) := by decide +kernel
theorem dX5_type_51 : decode cX5_type 51 = .ok (.l2i, 1) := by decide +kernel
theorem dX5_type_52 : decode cX5_type 52 = .ok (.invokevirtual 62, 3) := by decide +kernel
theorem dX5_type_55 : decode cX5_type 55 = .ok (.iinc 4 (-1), 3) := by decide +kernel
theorem dX5_type_58 : decode cX5_type 58 = .ok (.goto (-23), 3) := by decide +kernel
theorem dX5_type_61 : decode cX5_type 61 = .ok (.aload_n 0, 1) := by decide +kernel
theorem dX5_type_62 : decode cX5_type 62 = .ok (.getfield 21, 3) := by decide +kernel
theorem dX5_type_65 : decode cX5_type 65 = .ok (.getfield 61, 3) := by decide +kernel
theorem dX5_type_68 : decode cX5_type 68 = .ok (.ireturn, 1) := by decide +kernel
theorem dX5_addText_0 : decode cX5_addText 0 = .ok (.aload_n 0, 1) := by decide +kernel
theorem dX5_addText_1 : decode cX5_addText 1 = .ok (.iload_n 1, 1) := by decide +kernel
theorem dX5_addText_2 : decode cX5_addText 2 = .ok (.invokevirtual 42, 3) := by decide +kernel
theorem dX5_addText_5 : decode cX5_addText 5 = .ok (.astore_n 2, 1) := by decide +kernel
theorem dX5_addText_6 : decode cX5_addText 6 = .ok (.aload_n 2, 1) := by decide +kernel
theorem dX5_addText_7 : decode cX5_addText 7 = .ok (.ifnonnull 5, 3) := by decide +kernel
theorem dX5_addText_10 : decode cX5_addText 10 = .ok (.iconst (-1), 1) := by decide +kernel
theorem dX5_addText_11 : decode cX5_addText 11 = .ok (.ireturn, 1) := by decide +kernel
theorem dX5_addText_12 : decode cX5_addText 12 = .ok (.aload_n 2, 1) := by decide +kernel
theorem dX5_addText_13 : decode cX5_addText 13 = .ok (.getfield 54, 3) := by decide +kernel
theorem dX5_addText_16 : decode cX5_addText 16 = .ok (.iconst 2, 1) := by decide +kernel
theorem dX5_addText_17 : decode cX5_addText 17 = .ok (.if_icmp .eq 6, 3) := by decide +kernel
theorem dX5_addText_20 : decode cX5_addText 20 = .ok (.bipush (-2), 2) := by decide +kernel
theorem dX5_addText_22 : decode cX5_addText 22 = .ok (.ireturn, 1) := by decide +kernel
theorem dX5_addText_23 : decode cX5_addText 23 = .ok (.aload_n 2, 1) := by decide +kernel
theorem dX5_addText_24 : decode cX5_addText 24 = .ok (.getfield 46, 3) := by decide +kernel
theorem dX5_addText_27 : decode cX5_addText 27 = .ok (.sipush 200, 3) := by decide +kernel
theorem dX5_addText_30 : decode cX5_addText 30 = .ok (.if_icmp .lt 6, 3) := by decide +kernel
theorem dX5_addText_33 : decode cX5_addText 33 = .ok (.bipush (-3), 2) := by decide +kernel
theorem dX5_addText_35 : decode cX5_addText 35 = .ok (.ireturn, 1) := by decide +kernel
theorem dX5_addText_36 : decode cX5_addText 36 = .ok (.aload_n 2, 1) := by decide +kernel
theorem dX5_addText_37 : decode cX5_addText 37 = .ok (.aload_n 0, 1) := by decide +kernel
theorem dX5_addText_38 : decode cX5_addText 38 = .ok (.getfield 21, 3) := by decide +kernel
theorem dX5_addText_41 : decode cX5_addText 41 = .ok (.iconst 0, 1) := by decide +kernel
theorem dX5_addText_42 : decode cX5_addText 42 = .ok (.aload_n 0, 1) := by decide +kernel
theorem dX5_addText_43 : decode cX5_addText 43 = .ok (.getfield 21, 3) := by decide +kernel
theorem dX5_addText_46 : decode cX5_addText 46 = .ok (.getfield 61, 3) := by decide +kernel
theorem dX5_addText_49 : decode cX5_addText 49 = .ok (.invokevirtual 65, 3) := by decide +kernel
theorem dX5_addText_52 : decode cX5_addText 52 = .ok (.aload_n 0, 1) := by decide +kernel
theorem dX5_addText_53 : decode cX5_addText 53 = .ok (.getfield 21, 3) := by decide +kernel
theorem dX5_addText_56 : decode cX5_addText 56 = .ok (.invokevirtual 69, 3) := by decide +kernel
theorem dX5_addText_59 : decode cX5_addText 59 = .ok (.aload_n 2, 1) := by decide +kernel
theorem dX5_addText_60 : decode cX5_addText 60 = .ok (.getfield 46, 3) := by decide +kernel
theorem dX5_addText_63 : decode cX5_addText 63 = .ok (.iconst 1, 1) := by decide +kernel
theorem dX5_addText_64 : decode cX5_addText 64 = .ok (.isub, 1) := by decide +kernel
theorem dX5_addText_65 : decode cX5_addText 65 = .ok (.ireturn, 1) := by decide +kernel
theorem dX5_addNone_0 : decode cX5_addNone 0 = .ok (.aload_n 0, 1) := by decide +kernel
theorem dX5_addNone_1 : decode cX5_addNone 1 = .ok (.iload_n 1, 1) := by decide +kernel
theorem dX5_addNone_2 : decode cX5_addNone 2 = .ok (.invokevirtual 42, 3) := by decide +kernel
theorem dX5_addNone_5 : decode cX5_addNone 5 = .ok (.astore_n 2, 1) := by decide +kernel
theorem dX5_addNone_6 : decode cX5_addNone 6 = .ok (.aload_n 2, 1) := by decide +kernel
theorem dX5_addNone_7 : decode cX5_addNone 7 = .ok (.ifnonnull 5, 3) := by decide +kernel
theorem dX5_addNone_10 : decode cX5_addNone 10 = .ok (.iconst (-1), 1) := by decide +kernel
theorem dX5_addNone_11 : decode cX5_addNone 11 = .ok (.ireturn, 1) := by decide +kernel
theorem dX5_addNone_12 : decode cX5_addNone 12 = .ok (.aload_n 2, 1) := by decide +kernel
theorem dX5_addNone_13 : decode cX5_addNone 13 = .ok (.getfield 72, 3) := by decide +kernel
theorem dX5_addNone_16 : decode cX5_addNone 16 = .ok (.ifCond .ne 6, 3) := by decide +kernel
theorem dX5_addNone_19 : decode cX5_addNone 19 = .ok (.bipush (-2), 2) := by decide +kernel
theorem dX5_addNone_21 : decode cX5_addNone 21 = .ok (.ireturn, 1) := by decide +kernel
theorem dX5_addNone_22 : decode cX5_addNone 22 = .ok (.aload_n 2, 1) := by decide +kernel
theorem dX5_addNone_23 : decode cX5_addNone 23 = .ok (.getfield 46, 3) := by decide +kernel
theorem dX5_addNone_26 : decode cX5_addNone 26 = .ok (.sipush 200, 3) := by decide +kernel
theorem dX5_addNone_29 : decode cX5_addNone 29 = .ok (.if_icmp .lt 6, 3) := by decide +kernel
theorem dX5_addNone_32 : decode cX5_addNone 32 = .ok (.bipush (-3), 2) := by decide +kernel
theorem dX5_addNone_34 : decode cX5_addNone 34 = .ok (.ireturn, 1) := by decide +kernel
theorem dX5_addNone_35 : decode cX5_addNone 35 = .ok (.aload_n 2, 1) := by decide +kernel
theorem dX5_addNone_36 : decode cX5_addNone 36 = .ok (.invokevirtual 76, 3) := by decide +kernel
theorem dX5_addNone_39 : decode cX5_addNone 39 = .ok (.aload_n 2, 1) := by decide +kernel
theorem dX5_addNone_40 : decode cX5_addNone 40 = .ok (.getfield 46, 3) := by decide +kernel
theorem dX5_addNone_43 : decode cX5_addNone 43 = .ok (.iconst 1, 1) := by decide +kernel
theorem dX5_addNone_44 : decode cX5_addNone 44 = .ok (.isub, 1) := by decide +kernel
theorem dX5_addNone_45 : decode cX5_addNone 45 = .ok (.ireturn, 1) := by decide +kernel
theorem dX5_repeat_0 : decode cX5_repeat 0 = .ok (.aload_n 0, 1) := by decide +kernel
theorem dX5_repeat_1 : decode cX5_repeat 1 = .ok (.iload_n 1, 1) := by decide +kernel
theorem dX5_repeat_2 : decode cX5_repeat 2 = .ok (.invokevirtual 42, 3) := by decide +kernel
theorem dX5_repeat_5 : decode cX5_repeat 5 = .ok (.astore 4, 2) := by decide +kernel
theorem dX5_repeat_7 : decode cX5_repeat 7 = .ok (.aload 4, 2) := by decide +kernel
theorem dX5_repeat_9 : decode cX5_repeat 9 = .ok (.ifnull 28, 3) := by decide +kernel
theorem dX5_repeat_12 : decode cX5_repeat 12 = .ok (.iload_n 2, 1) := by decide +kernel
theorem dX5_repeat_13 : decode cX5_repeat 13 = .ok (.ifCond .lt 24, 3) := by decide +kernel
theorem dX5_repeat_16 : decode cX5_repeat 16 = .ok (.iload_n 2, 1) := by decide +kernel
theorem dX5_repeat_17 : decode cX5_repeat 17 = .ok (.aload 4, 2) := by decide +kernel
theorem dX5_repeat_19 : decode cX5_repeat 19 = .ok (.getfield 46, 3) := by decide +kernel
theorem dX5_repeat_22 : decode cX5_repeat 22 = .ok (.if_icmp .gt 15, 3) := by decide +kernel
theorem dX5_repeat_25 : decode cX5_repeat 25 = .ok (.iload_n 3, 1) := by decide +kernel
theorem dX5_repeat_26 : decode cX5_repeat 26 = .ok (.iconst 1, 1) := by decide +kernel
theorem dX5_repeat_27 : decode cX5_repeat 27 = .ok (.if_icmp .lt 10, 3) := by decide +kernel
theorem dX5_repeat_30 : decode cX5_repeat 30 = .ok (.iload_n 3, 1) := by decide +kernel
theorem dX5_repeat_31 : decode cX5_repeat 31 = .ok (.sipush 200, 3) := by decide +kernel
theorem dX5_repeat_34 : decode cX5_repeat 34 = .ok (.if_icmp .le 5, 3) := by decide +kernel
theorem dX5_repeat_37 : decode cX5_repeat 37 = .ok (.iconst (-1), 1) := by decide +kernel
theorem dX5_repeat_38 : decode cX5_repeat 38 = .ok (.ireturn, 1) := by decide +kernel
theorem dX5_repeat_39 : decode cX5_repeat 39 = .ok (.iload_n 2, 1) := by decide +kernel
theorem dX5_repeat_40 : decode cX5_repeat 40 = .ok (.iload_n 3, 1) := by decide +kernel
theorem dX5_repeat_41 : decode cX5_repeat 41 = .ok (.imul, 1) := by decide +kernel
theorem dX5_repeat_42 : decode cX5_repeat 42 = .ok (.sipush 200, 3) := by decide +kernel
theorem dX5_repeat_45 : decode cX5_repeat 45 = .ok (.if_icmp .le 6, 3) := by decide +kernel
theorem dX5_repeat_48 : decode cX5_repeat 48 = .ok (.bipush (-3), 2) := by decide +kernel
theorem dX5_repeat_50 : decode cX5_repeat 50 = .ok (.ireturn, 1) := by decide +kernel
theorem dX5_repeat_51 : decode cX5_repeat 51 = .ok (.aload 4, 2) := by decide +kernel
theorem dX5_repeat_53 : decode cX5_repeat 53 = .ok (.iload_n 2, 1) := by decide +kernel
theorem dX5_repeat_54 : decode cX5_repeat 54 = .ok (.iload_n 3, 1) := by decide +kernel
theorem dX5_repeat_55 : decode cX5_repeat 55 = .ok (.invokevirtual 79, 3) := by decide +kernel
theorem dX5_repeat_58 : decode cX5_repeat 58 = .ok (.aload 4, 2) := by decide +kernel
theorem dX5_repeat_60 : decode cX5_repeat 60 = .ok (.getfield 46, 3) := by decide +kernel
theorem dX5_repeat_63 : decode cX5_repeat 63 = .ok (.ireturn, 1) := by decide +kernel
theorem dX5_told_0 : decode cX5_told 0 = .ok (.aload_n 0, 1) := by decide +kernel
theorem dX5_told_1 : decode cX5_told 1 = .ok (.iload_n 1, 1) := by decide +kernel
theorem dX5_told_2 : decode cX5_told 2 = .ok (.invokevirtual 42, 3) := by decide +kernel
theorem dX5_told_5 : decode cX5_told 5 = .ok (.astore_n 3, 1) := by decide +kernel
theorem dX5_told_6 : decode cX5_told 6 = .ok (.aload_n 3, 1) := by decide +kernel
theorem dX5_told_7 : decode cX5_told 7 = .ok (.ifnonnull 5, 3) := by decide +kernel
theorem dX5_told_10 : decode cX5_told 10 = .ok (.iconst (-1), 1) := by decide +kernel
theorem dX5_told_11 : decode cX5_told 11 = .ok (.ireturn, 1) := by decide +kernel
theorem dX5_told_12 : decode cX5_told 12 = .ok (.iload_n 2, 1) := by decide +kernel
theorem dX5_told_13 : decode cX5_told 13 = .ok (.tableswitch 68 0 4 #[35, 40, 53, 58, 63], 35) := by decide +kernel
theorem dX5_told_48 : decode cX5_told 48 = .ok (.aload_n 3, 1) := by decide +kernel
theorem dX5_told_49 : decode cX5_told 49 = .ok (.getfield 54, 3) := by decide +kernel
theorem dX5_told_52 : decode cX5_told 52 = .ok (.ireturn, 1) := by decide +kernel
theorem dX5_told_53 : decode cX5_told 53 = .ok (.aload_n 3, 1) := by decide +kernel
theorem dX5_told_54 : decode cX5_told 54 = .ok (.getfield 72, 3) := by decide +kernel
theorem dX5_told_57 : decode cX5_told 57 = .ok (.ifCond .eq 7, 3) := by decide +kernel
theorem dX5_told_60 : decode cX5_told 60 = .ok (.iconst 1, 1) := by decide +kernel
theorem dX5_told_61 : decode cX5_told 61 = .ok (.goto 4, 3) := by decide +kernel
theorem dX5_told_64 : decode cX5_told 64 = .ok (.iconst 0, 1) := by decide +kernel
theorem dX5_told_65 : decode cX5_told 65 = .ok (.ireturn, 1) := by decide +kernel
theorem dX5_told_66 : decode cX5_told 66 = .ok (.aload_n 3, 1) := by decide +kernel
theorem dX5_told_67 : decode cX5_told 67 = .ok (.getfield 46, 3) := by decide +kernel
theorem dX5_told_70 : decode cX5_told 70 = .ok (.ireturn, 1) := by decide +kernel
theorem dX5_told_71 : decode cX5_told 71 = .ok (.aload_n 3, 1) := by decide +kernel
theorem dX5_told_72 : decode cX5_told 72 = .ok (.invokevirtual 83, 3) := by decide +kernel
theorem dX5_told_75 : decode cX5_told 75 = .ok (.ireturn, 1) := by decide +kernel
theorem dX5_told_76 : decode cX5_told 76 = .ok (.aload_n 3, 1) := by decide +kernel
theorem dX5_told_77 : decode cX5_told 77 = .ok (.invokevirtual 87, 3) := by decide +kernel
theorem dX5_told_80 : decode cX5_told 80 = .ok (.ireturn, 1) := by decide +kernel
theorem dX5_told_81 : decode cX5_told 81 = .ok (.iconst (-1), 1) := by decide +kernel
theorem dX5_told_82 : decode cX5_told 82 = .ok (.ireturn, 1) := by decide +kernel
theorem dX5_has_0 : decode cX5_has 0 = .ok (.aload_n 0, 1) := by decide +kernel
theorem dX5_has_1 : decode cX5_has 1 = .ok (.iload_n 1, 1) := by decide +kernel
theorem dX5_has_2 : decode cX5_has 2 = .ok (.invokevirtual 42, 3) := by decide +kernel
theorem dX5_has_5 : decode cX5_has 5 = .ok (.astore_n 3, 1) := by decide +kernel
theorem dX5_has_6 : decode cX5_has 6 = .ok (.aload_n 3, 1) := by decide +kernel
theorem dX5_has_7 : decode cX5_has 7 = .ok (.ifnull 11, 3) := by decide +kernel
theorem dX5_has_10 : decode cX5_has 10 = .ok (.aload_n 3, 1) := by decide +kernel
theorem dX5_has_11 : decode cX5_has 11 = .ok (.iload_n 2, 1) := by decide +kernel
theorem dX5_has_12 : decode cX5_has 12 = .ok (.invokevirtual 90, 3) := by decide +kernel
theorem dX5_has_15 : decode cX5_has 15 = .ok (.ifCond .ne 5, 3) := by decide +kernel
theorem dX5_has_18 : decode cX5_has 18 = .ok (.iconst (-1), 1) := by decide +kernel
theorem dX5_has_19 : decode cX5_has 19 = .ok (.ireturn, 1) := by decide +kernel
theorem dX5_has_20 : decode cX5_has 20 = .ok (.aload_n 3, 1) := by decide +kernel
theorem dX5_has_21 : decode cX5_has 21 = .ok (.iload_n 2, 1) := by decide +kernel
theorem dX5_has_22 : decode cX5_has 22 = .ok (.invokevirtual 94, 3) := by decide +kernel
theorem dX5_has_25 : decode cX5_has 25 = .ok (.ifCond .eq 7, 3) := by decide +kernel
theorem dX5_has_28 : decode cX5_has 28 = .ok (.iconst 1, 1) := by decide +kernel
theorem dX5_has_29 : decode cX5_has 29 = .ok (.goto 4, 3) := by decide +kernel
theorem dX5_has_32 : decode cX5_has 32 = .ok (.iconst 0, 1) := by decide +kernel
theorem dX5_has_33 : decode cX5_has 33 = .ok (.ireturn, 1) := by decide +kernel
theorem dX5_value_0 : decode cX5_value 0 = .ok (.aload_n 0, 1) := by decide +kernel
theorem dX5_value_1 : decode cX5_value 1 = .ok (.iload_n 1, 1) := by decide +kernel
theorem dX5_value_2 : decode cX5_value 2 = .ok (.invokevirtual 42, 3) := by decide +kernel
theorem dX5_value_5 : decode cX5_value 5 = .ok (.astore_n 3, 1) := by decide +kernel
theorem dX5_value_6 : decode cX5_value 6 = .ok (.aload_n 3, 1) := by decide +kernel
theorem dX5_value_7 : decode cX5_value 7 = .ok (.ifnull 11, 3) := by decide +kernel
theorem dX5_value_10 : decode cX5_value 10 = .ok (.aload_n 3, 1) := by decide +kernel
theorem dX5_value_11 : decode cX5_value 11 = .ok (.iload_n 2, 1) := by decide +kernel
theorem dX5_value_12 : decode cX5_value 12 = .ok (.invokevirtual 90, 3) := by decide +kernel
theorem dX5_value_15 : decode cX5_value 15 = .ok (.ifCond .ne 5, 3) := by decide +kernel
theorem dX5_value_18 : decode cX5_value 18 = .ok (.lconst 0, 1) := by decide +kernel
theorem dX5_value_19 : decode cX5_value 19 = .ok (.lreturn, 1) := by decide +kernel
theorem dX5_value_20 : decode cX5_value 20 = .ok (.aload_n 3, 1) := by decide +kernel
theorem dX5_value_21 : decode cX5_value 21 = .ok (.iload_n 2, 1) := by decide +kernel
theorem dX5_value_22 : decode cX5_value 22 = .ok (.invokevirtual 97, 3) := by decide +kernel
theorem dX5_value_25 : decode cX5_value 25 = .ok (.lreturn, 1) := by decide +kernel
theorem dX5_letter_0 : decode cX5_letter 0 = .ok (.aload_n 0, 1) := by decide +kernel
theorem dX5_letter_1 : decode cX5_letter 1 = .ok (.iload_n 1, 1) := by decide +kernel
theorem dX5_letter_2 : decode cX5_letter 2 = .ok (.invokevirtual 42, 3) := by decide +kernel
theorem dX5_letter_5 : decode cX5_letter 5 = .ok (.astore 4, 2) := by decide +kernel
theorem dX5_letter_7 : decode cX5_letter 7 = .ok (.aload 4, 2) := by decide +kernel
theorem dX5_letter_9 : decode cX5_letter 9 = .ok (.ifnull 30, 3) := by decide +kernel
theorem dX5_letter_12 : decode cX5_letter 12 = .ok (.aload 4, 2) := by decide +kernel
theorem dX5_letter_14 : decode cX5_letter 14 = .ok (.getfield 54, 3) := by decide +kernel
theorem dX5_letter_17 : decode cX5_letter 17 = .ok (.iconst 2, 1) := by decide +kernel
theorem dX5_letter_18 : decode cX5_letter 18 = .ok (.if_icmp .ne 21, 3) := by decide +kernel
theorem dX5_letter_21 : decode cX5_letter 21 = .ok (.aload 4, 2) := by decide +kernel
theorem dX5_letter_23 : decode cX5_letter 23 = .ok (.iload_n 2, 1) := by decide +kernel
theorem dX5_letter_24 : decode cX5_letter 24 = .ok (.invokevirtual 90, 3) := by decide +kernel
theorem dX5_letter_27 : decode cX5_letter 27 = .ok (.ifCond .eq 12, 3) := by decide +kernel
theorem dX5_letter_30 : decode cX5_letter 30 = .ok (.aload 4, 2) := by decide +kernel
theorem dX5_letter_32 : decode cX5_letter 32 = .ok (.iload_n 2, 1) := by decide +kernel
theorem dX5_letter_33 : decode cX5_letter 33 = .ok (.invokevirtual 94, 3) := by decide +kernel
theorem dX5_letter_36 : decode cX5_letter 36 = .ok (.ifCond .ne 5, 3) := by decide +kernel
theorem dX5_letter_39 : decode cX5_letter 39 = .ok (.iconst (-1), 1) := by decide +kernel
theorem dX5_letter_40 : decode cX5_letter 40 = .ok (.ireturn, 1) := by decide +kernel
theorem dX5_letter_41 : decode cX5_letter 41 = .ok (.iload_n 3, 1) := by decide +kernel
theorem dX5_letter_42 : decode cX5_letter 42 = .ok (.ifCond .lt 15, 3) := by decide +kernel
theorem dX5_letter_45 : decode cX5_letter 45 = .ok (.iload_n 3, 1) := by decide +kernel
theorem dX5_letter_46 : decode cX5_letter 46 = .ok (.i2l, 1) := by decide +kernel
theorem dX5_letter_47 : decode cX5_letter 47 = .ok (.aload 4, 2) := by decide +kernel
theorem dX5_letter_49 : decode cX5_letter 49 = .ok (.iload_n 2, 1) := by decide +kernel
theorem dX5_letter_50 : decode cX5_letter 50 = .ok (.invokevirtual 97, 3) := by decide +kernel
theorem dX5_letter_53 : decode cX5_letter 53 = .ok (.lcmp, 1) := by decide +kernel
theorem dX5_letter_54 : decode cX5_letter 54 = .ok (.ifCond .lt 5, 3) := by decide +kernel
theorem dX5_letter_57 : decode cX5_letter 57 = .ok (.iconst (-1), 1) := by decide +kernel
theorem dX5_letter_58 : decode cX5_letter 58 = .ok (.ireturn, 1) := by decide +kernel
theorem dX5_letter_59 : decode cX5_letter 59 = .ok (.aload 4, 2) := by decide +kernel
theorem dX5_letter_61 : decode cX5_letter 61 = .ok (.iload_n 2, 1) := by decide +kernel
theorem dX5_letter_62 : decode cX5_letter 62 = .ok (.iload_n 3, 1) := by decide +kernel
theorem dX5_letter_63 : decode cX5_letter 63 = .ok (.invokevirtual 101, 3) := by decide +kernel
theorem dX5_letter_66 : decode cX5_letter 66 = .ok (.ireturn, 1) := by decide +kernel
theorem dX5_alike_0 : decode cX5_alike 0 = .ok (.aload_n 0, 1) := by decide +kernel
theorem dX5_alike_1 : decode cX5_alike 1 = .ok (.iload_n 1, 1) := by decide +kernel
theorem dX5_alike_2 : decode cX5_alike 2 = .ok (.invokevirtual 42, 3) := by decide +kernel
theorem dX5_alike_5 : decode cX5_alike 5 = .ok (.astore_n 3, 1) := by decide +kernel
theorem dX5_alike_6 : decode cX5_alike 6 = .ok (.aload_n 0, 1) := by decide +kernel
theorem dX5_alike_7 : decode cX5_alike 7 = .ok (.iload_n 2, 1) := by decide +kernel
theorem dX5_alike_8 : decode cX5_alike 8 = .ok (.invokevirtual 42, 3) := by decide +kernel
theorem dX5_alike_11 : decode cX5_alike 11 = .ok (.astore 4, 2) := by decide +kernel
theorem dX5_alike_13 : decode cX5_alike 13 = .ok (.aload_n 3, 1) := by decide +kernel
theorem dX5_alike_14 : decode cX5_alike 14 = .ok (.ifnull 8, 3) := by decide +kernel
theorem dX5_alike_17 : decode cX5_alike 17 = .ok (.aload 4, 2) := by decide +kernel
theorem dX5_alike_19 : decode cX5_alike 19 = .ok (.ifnonnull 5, 3) := by decide +kernel
theorem dX5_alike_22 : decode cX5_alike 22 = .ok (.iconst (-1), 1) := by decide +kernel
theorem dX5_alike_23 : decode cX5_alike 23 = .ok (.ireturn, 1) := by decide +kernel
theorem dX5_alike_24 : decode cX5_alike 24 = .ok (.aload_n 3, 1) := by decide +kernel
theorem dX5_alike_25 : decode cX5_alike 25 = .ok (.aload 4, 2) := by decide +kernel
theorem dX5_alike_27 : decode cX5_alike 27 = .ok (.invokevirtual 105, 3) := by decide +kernel
theorem dX5_alike_30 : decode cX5_alike 30 = .ok (.ifCond .eq 7, 3) := by decide +kernel
theorem dX5_alike_33 : decode cX5_alike 33 = .ok (.iconst 1, 1) := by decide +kernel
theorem dX5_alike_34 : decode cX5_alike 34 = .ok (.goto 4, 3) := by decide +kernel
theorem dX5_alike_37 : decode cX5_alike 37 = .ok (.iconst 0, 1) := by decide +kernel
theorem dX5_alike_38 : decode cX5_alike 38 = .ok (.ireturn, 1) := by decide +kernel
theorem dX5_write_0 : decode cX5_write 0 = .ok (.aload_n 0, 1) := by decide +kernel
theorem dX5_write_1 : decode cX5_write 1 = .ok (.iload_n 1, 1) := by decide +kernel
theorem dX5_write_2 : decode cX5_write 2 = .ok (.invokevirtual 42, 3) := by decide +kernel
theorem dX5_write_5 : decode cX5_write 5 = .ok (.astore 5, 2) := by decide +kernel
theorem dX5_write_7 : decode cX5_write 7 = .ok (.aload 5, 2) := by decide +kernel
theorem dX5_write_9 : decode cX5_write 9 = .ok (.ifnull 24, 3) := by decide +kernel
theorem dX5_write_12 : decode cX5_write 12 = .ok (.iload_n 2, 1) := by decide +kernel
theorem dX5_write_13 : decode cX5_write 13 = .ok (.ifCond .lt 20, 3) := by decide +kernel
theorem dX5_write_16 : decode cX5_write 16 = .ok (.iload_n 2, 1) := by decide +kernel
theorem dX5_write_17 : decode cX5_write 17 = .ok (.iconst 2, 1) := by decide +kernel
theorem dX5_write_18 : decode cX5_write 18 = .ok (.if_icmp .gt 15, 3) := by decide +kernel
theorem dX5_write_21 : decode cX5_write 21 = .ok (.iload_n 3, 1) := by decide +kernel
theorem dX5_write_22 : decode cX5_write 22 = .ok (.iconst 1, 1) := by decide +kernel
theorem dX5_write_23 : decode cX5_write 23 = .ok (.if_icmp .lt 10, 3) := by decide +kernel
theorem dX5_write_26 : decode cX5_write 26 = .ok (.iload_n 3, 1) := by decide +kernel
theorem dX5_write_27 : decode cX5_write 27 = .ok (.sipush 200, 3) := by decide +kernel
theorem dX5_write_30 : decode cX5_write 30 = .ok (.if_icmp .le 5, 3) := by decide +kernel
theorem dX5_write_33 : decode cX5_write 33 = .ok (.iconst (-1), 1) := by decide +kernel
theorem dX5_write_34 : decode cX5_write 34 = .ok (.ireturn, 1) := by decide +kernel
theorem dX5_write_35 : decode cX5_write 35 = .ok (.iload_n 2, 1) := by decide +kernel
theorem dX5_write_36 : decode cX5_write 36 = .ok (.iconst 1, 1) := by decide +kernel
theorem dX5_write_37 : decode cX5_write 37 = .ok (.if_icmp .ne 14, 3) := by decide +kernel
theorem dX5_write_40 : decode cX5_write 40 = .ok (.aload 5, 2) := by decide +kernel
theorem dX5_write_42 : decode cX5_write 42 = .ok (.getfield 54, 3) := by decide +kernel
theorem dX5_write_45 : decode cX5_write 45 = .ok (.iconst 3, 1) := by decide +kernel
theorem dX5_write_46 : decode cX5_write 46 = .ok (.if_icmp .ne 5, 3) := by decide +kernel
theorem dX5_write_49 : decode cX5_write 49 = .ok (.iconst (-1), 1) := by decide +kernel
theorem dX5_write_50 : decode cX5_write 50 = .ok (.ireturn, 1) := by decide +kernel
theorem dX5_write_51 : decode cX5_write 51 = .ok (.aload_n 0, 1) := by decide +kernel
theorem dX5_write_52 : decode cX5_write 52 = .ok (.getfield 31, 3) := by decide +kernel
theorem dX5_write_55 : decode cX5_write 55 = .ok (.aload 5, 2) := by decide +kernel
theorem dX5_write_57 : decode cX5_write 57 = .ok (.iload_n 2, 1) := by decide +kernel
theorem dX5_write_58 : decode cX5_write 58 = .ok (.iload_n 3, 1) := by decide +kernel
theorem dX5_write_59 : decode cX5_write 59 = .ok (.invokevirtual 109, 3) := by decide +kernel
theorem dX5_write_62 : decode cX5_write 62 = .ok (.iload 4, 2) := by decide +kernel
theorem dX5_write_64 : decode cX5_write 64 = .ok (.ifCond .eq 13, 3) := by decide +kernel
theorem dX5_write_67 : decode cX5_write 67 = .ok (.aload_n 0, 1) := by decide +kernel
theorem dX5_write_68 : decode cX5_write 68 = .ok (.getfield 25, 3) := by decide +kernel
theorem dX5_write_71 : decode cX5_write 71 = .ok (.getfield 61, 3) := by decide +kernel
theorem dX5_write_74 : decode cX5_write 74 = .ok (.goto 4, 3) := by decide +kernel
theorem dX5_write_77 : decode cX5_write 77 = .ok (.iconst 0, 1) := by decide +kernel
theorem dX5_write_78 : decode cX5_write 78 = .ok (.istore 6, 2) := by decide +kernel
theorem dX5_write_80 : decode cX5_write 80 = .ok (.aload_n 0, 1) := by decide +kernel
theorem dX5_write_81 : decode cX5_write 81 = .ok (.getfield 31, 3) := by decide +kernel
theorem dX5_write_84 : decode cX5_write 84 = .ok (.getfield 113, 3) := by decide +kernel
theorem dX5_write_87 : decode cX5_write 87 = .ok (.getfield 116, 3) := by decide +kernel
theorem dX5_write_90 : decode cX5_write 90 = .ok (.ifCond .ne 22, 3) := by decide +kernel
theorem dX5_write_93 : decode cX5_write 93 = .ok (.iload 6, 2) := by decide +kernel
theorem dX5_write_95 : decode cX5_write 95 = .ok (.aload_n 0, 1) := by decide +kernel
theorem dX5_write_96 : decode cX5_write 96 = .ok (.getfield 31, 3) := by decide +kernel
theorem dX5_write_99 : decode cX5_write 99 = .ok (.getfield 113, 3) := by decide +kernel
theorem dX5_write_102 : decode cX5_write 102 = .ok (.getfield 61, 3) := by decide +kernel
theorem dX5_write_105 : decode cX5_write 105 = .ok (.iadd, 1) := by decide +kernel
theorem dX5_write_106 : decode cX5_write 106 = .ok (.sipush 12000, 3) := by decide +kernel
theorem dX5_write_109 : decode cX5_write 109 = .ok (.if_icmp .le 6, 3) := by decide +kernel
theorem dX5_write_112 : decode cX5_write 112 = .ok (.bipush (-3), 2) := by decide +kernel
theorem dX5_write_114 : decode cX5_write 114 = .ok (.ireturn, 1) := by decide +kernel
theorem dX5_write_115 : decode cX5_write 115 = .ok (.aload_n 0, 1) := by decide +kernel
theorem dX5_write_116 : decode cX5_write 116 = .ok (.getfield 25, 3) := by decide +kernel
theorem dX5_write_119 : decode cX5_write 119 = .ok (.iload 6, 2) := by decide +kernel
theorem dX5_write_121 : decode cX5_write 121 = .ok (.invokevirtual 119, 3) := by decide +kernel
theorem dX5_write_124 : decode cX5_write 124 = .ok (.aload_n 0, 1) := by decide +kernel
theorem dX5_write_125 : decode cX5_write 125 = .ok (.getfield 25, 3) := by decide +kernel
theorem dX5_write_128 : decode cX5_write 128 = .ok (.aload_n 0, 1) := by decide +kernel
theorem dX5_write_129 : decode cX5_write 129 = .ok (.getfield 31, 3) := by decide +kernel
theorem dX5_write_132 : decode cX5_write 132 = .ok (.getfield 113, 3) := by decide +kernel
theorem dX5_write_135 : decode cX5_write 135 = .ok (.invokevirtual 122, 3) := by decide +kernel
theorem dX5_write_138 : decode cX5_write 138 = .ok (.aload_n 0, 1) := by decide +kernel
theorem dX5_write_139 : decode cX5_write 139 = .ok (.getfield 25, 3) := by decide +kernel
theorem dX5_write_142 : decode cX5_write 142 = .ok (.getfield 61, 3) := by decide +kernel
theorem dX5_write_145 : decode cX5_write 145 = .ok (.ireturn, 1) := by decide +kernel
theorem dX5_read_0 : decode cX5_read 0 = .ok (.aload_n 0, 1) := by decide +kernel
theorem dX5_read_1 : decode cX5_read 1 = .ok (.iload_n 1, 1) := by decide +kernel
theorem dX5_read_2 : decode cX5_read 2 = .ok (.invokevirtual 42, 3) := by decide +kernel
theorem dX5_read_5 : decode cX5_read 5 = .ok (.astore_n 2, 1) := by decide +kernel
theorem dX5_read_6 : decode cX5_read 6 = .ok (.aload_n 2, 1) := by decide +kernel
theorem dX5_read_7 : decode cX5_read 7 = .ok (.ifnonnull 5, 3) := by decide +kernel
theorem dX5_read_10 : decode cX5_read 10 = .ok (.iconst (-1), 1) := by decide +kernel
theorem dX5_read_11 : decode cX5_read 11 = .ok (.ireturn, 1) := by decide +kernel
theorem dX5_read_12 : decode cX5_read 12 = .ok (.aload_n 0, 1) := by decide +kernel
theorem dX5_read_13 : decode cX5_read 13 = .ok (.getfield 38, 3) := by decide +kernel
theorem dX5_read_16 : decode cX5_read 16 = .ok (.aload_n 0, 1) := by decide +kernel
theorem dX5_read_17 : decode cX5_read 17 = .ok (.getfield 25, 3) := by decide +kernel
theorem dX5_read_20 : decode cX5_read 20 = .ok (.aload_n 2, 1) := by decide +kernel
theorem dX5_read_21 : decode cX5_read 21 = .ok (.getfield 54, 3) := by decide +kernel
theorem dX5_read_24 : decode cX5_read 24 = .ok (.aload_n 2, 1) := by decide +kernel
theorem dX5_read_25 : decode cX5_read 25 = .ok (.getfield 72, 3) := by decide +kernel
theorem dX5_read_28 : decode cX5_read 28 = .ok (.invokevirtual 126, 3) := by decide +kernel
theorem dX5_read_31 : decode cX5_read 31 = .ok (.aload_n 0, 1) := by decide +kernel
theorem dX5_read_32 : decode cX5_read 32 = .ok (.getfield 38, 3) := by decide +kernel
theorem dX5_read_35 : decode cX5_read 35 = .ok (.getfield 130, 3) := by decide +kernel
theorem dX5_read_38 : decode cX5_read 38 = .ok (.invokevirtual 134, 3) := by decide +kernel
theorem dX5_read_41 : decode cX5_read 41 = .ok (.ifCond .ne 17, 3) := by decide +kernel
theorem dX5_read_44 : decode cX5_read 44 = .ok (.bipush (-10), 2) := by decide +kernel
theorem dX5_read_46 : decode cX5_read 46 = .ok (.aload_n 0, 1) := by decide +kernel
theorem dX5_read_47 : decode cX5_read 47 = .ok (.getfield 38, 3) := by decide +kernel
theorem dX5_read_50 : decode cX5_read 50 = .ok (.getfield 130, 3) := by decide +kernel
theorem dX5_read_53 : decode cX5_read 53 = .ok (.getfield 140, 3) := by decide +kernel
theorem dX5_read_56 : decode cX5_read 56 = .ok (.isub, 1) := by decide +kernel
theorem dX5_read_57 : decode cX5_read 57 = .ok (.ireturn, 1) := by decide +kernel
theorem dX5_read_58 : decode cX5_read 58 = .ok (.aload_n 2, 1) := by decide +kernel
theorem dX5_read_59 : decode cX5_read 59 = .ok (.aload_n 0, 1) := by decide +kernel
theorem dX5_read_60 : decode cX5_read 60 = .ok (.getfield 38, 3) := by decide +kernel
theorem dX5_read_63 : decode cX5_read 63 = .ok (.getfield 143, 3) := by decide +kernel
theorem dX5_read_66 : decode cX5_read 66 = .ok (.invokevirtual 147, 3) := by decide +kernel
theorem dX5_read_69 : decode cX5_read 69 = .ok (.aload_n 2, 1) := by decide +kernel
theorem dX5_read_70 : decode cX5_read 70 = .ok (.getfield 46, 3) := by decide +kernel
theorem dX5_read_73 : decode cX5_read 73 = .ok (.ireturn, 1) := by decide +kernel
theorem dX5_fault_0 : decode cX5_fault 0 = .ok (.iload_n 1, 1) := by decide +kernel
theorem dX5_fault_1 : decode cX5_fault 1 = .ok (.tableswitch 72 0 3 #[31, 42, 53, 61], 31) := by decide +kernel
theorem dX5_fault_32 : decode cX5_fault 32 = .ok (.aload_n 0, 1) := by decide +kernel
theorem dX5_fault_33 : decode cX5_fault 33 = .ok (.getfield 38, 3) := by decide +kernel
theorem dX5_fault_36 : decode cX5_fault 36 = .ok (.getfield 130, 3) := by decide +kernel
theorem dX5_fault_39 : decode cX5_fault 39 = .ok (.getfield 140, 3) := by decide +kernel
theorem dX5_fault_42 : decode cX5_fault 42 = .ok (.ireturn, 1) := by decide +kernel
theorem dX5_fault_43 : decode cX5_fault 43 = .ok (.aload_n 0, 1) := by decide +kernel
theorem dX5_fault_44 : decode cX5_fault 44 = .ok (.getfield 38, 3) := by decide +kernel
theorem dX5_fault_47 : decode cX5_fault 47 = .ok (.getfield 130, 3) := by decide +kernel
theorem dX5_fault_50 : decode cX5_fault 50 = .ok (.getfield 151, 3) := by decide +kernel
theorem dX5_fault_53 : decode cX5_fault 53 = .ok (.ireturn, 1) := by decide +kernel
theorem dX5_fault_54 : decode cX5_fault 54 = .ok (.aload_n 0, 1) := by decide +kernel
theorem dX5_fault_55 : decode cX5_fault 55 = .ok (.getfield 38, 3) := by decide +kernel
theorem dX5_fault_58 : decode cX5_fault 58 = .ok (.getfield 154, 3) := by decide +kernel
theorem dX5_fault_61 : decode cX5_fault 61 = .ok (.ireturn, 1) := by decide +kernel
theorem dX5_fault_62 : decode cX5_fault 62 = .ok (.aload_n 0, 1) := by decide +kernel
theorem dX5_fault_63 : decode cX5_fault 63 = .ok (.getfield 38, 3) := by decide +kernel
theorem dX5_fault_66 : decode cX5_fault 66 = .ok (.getfield 157, 3) := by decide +kernel
theorem dX5_fault_69 : decode cX5_fault 69 = .ok (.getfield 46, 3) := by decide +kernel
theorem dX5_fault_72 : decode cX5_fault 72 = .ok (.ireturn, 1) := by decide +kernel
theorem dX5_fault_73 : decode cX5_fault 73 = .ok (.iconst (-1), 1) := by decide +kernel
theorem dX5_fault_74 : decode cX5_fault 74 = .ok (.ireturn, 1) := by decide +kernel
theorem dX5_size_0 : decode cX5_size 0 = .ok (.aload_n 0, 1) := by decide +kernel
theorem dX5_size_1 : decode cX5_size 1 = .ok (.getfield 25, 3) := by decide +kernel
theorem dX5_size_4 : decode cX5_size 4 = .ok (.getfield 61, 3) := by decide +kernel
theorem dX5_size_7 : decode cX5_size 7 = .ok (.ireturn, 1) := by decide +kernel
theorem dX5_byteAt_0 : decode cX5_byteAt 0 = .ok (.iload_n 1, 1) := by decide +kernel
theorem dX5_byteAt_1 : decode cX5_byteAt 1 = .ok (.ifCond .lt 14, 3) := by decide +kernel
theorem dX5_byteAt_4 : decode cX5_byteAt 4 = .ok (.iload_n 1, 1) := by decide +kernel
theorem dX5_byteAt_5 : decode cX5_byteAt 5 = .ok (.aload_n 0, 1) := by decide +kernel
theorem dX5_byteAt_6 : decode cX5_byteAt 6 = .ok (.getfield 25, 3) := by decide +kernel
theorem dX5_byteAt_9 : decode cX5_byteAt 9 = .ok (.getfield 61, 3) := by decide +kernel
theorem dX5_byteAt_12 : decode cX5_byteAt 12 = .ok (.if_icmp .lt 7, 3) := by decide +kernel
theorem dX5_byteAt_15 : decode cX5_byteAt 15 = .ok (.iconst (-1), 1) := by decide +kernel
theorem dX5_byteAt_16 : decode cX5_byteAt 16 = .ok (.goto 11, 3) := by decide +kernel
theorem dX5_byteAt_19 : decode cX5_byteAt 19 = .ok (.aload_n 0, 1) := by decide +kernel
theorem dX5_byteAt_20 : decode cX5_byteAt 20 = .ok (.getfield 25, 3) := by decide +kernel
theorem dX5_byteAt_23 : decode cX5_byteAt 23 = .ok (.iload_n 1, 1) := by decide +kernel
theorem dX5_byteAt_24 : decode cX5_byteAt 24 = .ok (.invokevirtual 160, 3) := by decide +kernel
theorem dX5_byteAt_27 : decode cX5_byteAt 27 = .ok (.ireturn, 1) := by decide +kernel
theorem dX5_poke_0 : decode cX5_poke 0 = .ok (.iload_n 1, 1) := by decide +kernel
theorem dX5_poke_1 : decode cX5_poke 1 = .ok (.ifCond .lt 14, 3) := by decide +kernel
theorem dX5_poke_4 : decode cX5_poke 4 = .ok (.iload_n 1, 1) := by decide +kernel
theorem dX5_poke_5 : decode cX5_poke 5 = .ok (.aload_n 0, 1) := by decide +kernel
theorem dX5_poke_6 : decode cX5_poke 6 = .ok (.getfield 25, 3) := by decide +kernel
theorem dX5_poke_9 : decode cX5_poke 9 = .ok (.getfield 61, 3) := by decide +kernel
theorem dX5_poke_12 : decode cX5_poke 12 = .ok (.if_icmp .lt 5, 3) := by decide +kernel
theorem dX5_poke_15 : decode cX5_poke 15 = .ok (.iconst (-1), 1) := by decide +kernel
theorem dX5_poke_16 : decode cX5_poke 16 = .ok (.ireturn, 1) := by decide +kernel
theorem dX5_poke_17 : decode cX5_poke 17 = .ok (.aload_n 0, 1) := by decide +kernel
theorem dX5_poke_18 : decode cX5_poke 18 = .ok (.getfield 25, 3) := by decide +kernel
theorem dX5_poke_21 : decode cX5_poke 21 = .ok (.iload_n 1, 1) := by decide +kernel
theorem dX5_poke_22 : decode cX5_poke 22 = .ok (.aload_n 0, 1) := by decide +kernel
theorem dX5_poke_23 : decode cX5_poke 23 = .ok (.getfield 25, 3) := by decide +kernel
theorem dX5_poke_26 : decode cX5_poke 26 = .ok (.iload_n 1, 1) := by decide +kernel
theorem dX5_poke_27 : decode cX5_poke 27 = .ok (.invokevirtual 160, 3) := by decide +kernel
theorem dX5_poke_30 : decode cX5_poke 30 = .ok (.iload_n 2, 1) := by decide +kernel
theorem dX5_poke_31 : decode cX5_poke 31 = .ok (.ixor, 1) := by decide +kernel
theorem dX5_poke_32 : decode cX5_poke 32 = .ok (.invokevirtual 164, 3) := by decide +kernel
theorem dX5_poke_35 : decode cX5_poke 35 = .ok (.aload_n 0, 1) := by decide +kernel
theorem dX5_poke_36 : decode cX5_poke 36 = .ok (.getfield 25, 3) := by decide +kernel
theorem dX5_poke_39 : decode cX5_poke 39 = .ok (.iload_n 1, 1) := by decide +kernel
theorem dX5_poke_40 : decode cX5_poke 40 = .ok (.invokevirtual 160, 3) := by decide +kernel
theorem dX5_poke_43 : decode cX5_poke 43 = .ok (.ireturn, 1) := by decide +kernel
theorem dX5_cut_0 : decode cX5_cut 0 = .ok (.iload_n 1, 1) := by decide +kernel
theorem dX5_cut_1 : decode cX5_cut 1 = .ok (.ifCond .lt 14, 3) := by decide +kernel
theorem dX5_cut_4 : decode cX5_cut 4 = .ok (.iload_n 1, 1) := by decide +kernel
theorem dX5_cut_5 : decode cX5_cut 5 = .ok (.aload_n 0, 1) := by decide +kernel
theorem dX5_cut_6 : decode cX5_cut 6 = .ok (.getfield 25, 3) := by decide +kernel
theorem dX5_cut_9 : decode cX5_cut 9 = .ok (.getfield 61, 3) := by decide +kernel
theorem dX5_cut_12 : decode cX5_cut 12 = .ok (.if_icmp .le 5, 3) := by decide +kernel
theorem dX5_cut_15 : decode cX5_cut 15 = .ok (.iconst (-1), 1) := by decide +kernel
theorem dX5_cut_16 : decode cX5_cut 16 = .ok (.ireturn, 1) := by decide +kernel
theorem dX5_cut_17 : decode cX5_cut 17 = .ok (.aload_n 0, 1) := by decide +kernel
theorem dX5_cut_18 : decode cX5_cut 18 = .ok (.getfield 25, 3) := by decide +kernel
theorem dX5_cut_21 : decode cX5_cut 21 = .ok (.getfield 61, 3) := by decide +kernel
theorem dX5_cut_24 : decode cX5_cut 24 = .ok (.iload_n 1, 1) := by decide +kernel
theorem dX5_cut_25 : decode cX5_cut 25 = .ok (.isub, 1) := by decide +kernel
theorem dX5_cut_26 : decode cX5_cut 26 = .ok (.istore_n 2, 1) := by decide +kernel
theorem dX5_cut_27 : decode cX5_cut 27 = .ok (.aload_n 0, 1) := by decide +kernel
theorem dX5_cut_28 : decode cX5_cut 28 = .ok (.getfield 25, 3) := by decide +kernel
theorem dX5_cut_31 : decode cX5_cut 31 = .ok (.iload_n 1, 1) := by decide +kernel
theorem dX5_cut_32 : decode cX5_cut 32 = .ok (.invokevirtual 119, 3) := by decide +kernel
theorem dX5_cut_35 : decode cX5_cut 35 = .ok (.iload_n 2, 1) := by decide +kernel
theorem dX5_cut_36 : decode cX5_cut 36 = .ok (.ireturn, 1) := by decide +kernel
theorem dX5_put_0 : decode cX5_put 0 = .ok (.iload_n 3, 1) := by decide +kernel
theorem dX5_put_1 : decode cX5_put 1 = .ok (.iconst 1, 1) := by decide +kernel
theorem dX5_put_2 : decode cX5_put 2 = .ok (.if_icmp .lt 9, 3) := by decide +kernel
theorem dX5_put_5 : decode cX5_put 5 = .ok (.iload_n 3, 1) := by decide +kernel
theorem dX5_put_6 : decode cX5_put 6 = .ok (.bipush 8, 2) := by decide +kernel
theorem dX5_put_8 : decode cX5_put 8 = .ok (.if_icmp .le 5, 3) := by decide +kernel
theorem dX5_put_11 : decode cX5_put 11 = .ok (.iconst (-1), 1) := by decide +kernel
theorem dX5_put_12 : decode cX5_put 12 = .ok (.ireturn, 1) := by decide +kernel
theorem dX5_put_13 : decode cX5_put 13 = .ok (.aload_n 0, 1) := by decide +kernel
theorem dX5_put_14 : decode cX5_put 14 = .ok (.getfield 25, 3) := by decide +kernel
theorem dX5_put_17 : decode cX5_put 17 = .ok (.getfield 61, 3) := by decide +kernel
theorem dX5_put_20 : decode cX5_put 20 = .ok (.iload_n 3, 1) := by decide +kernel
theorem dX5_put_21 : decode cX5_put 21 = .ok (.iadd, 1) := by decide +kernel
theorem dX5_put_22 : decode cX5_put 22 = .ok (.sipush 12000, 3) := by decide +kernel
theorem dX5_put_25 : decode cX5_put 25 = .ok (.if_icmp .le 6, 3) := by decide +kernel
theorem dX5_put_28 : decode cX5_put 28 = .ok (.bipush (-3), 2) := by decide +kernel
theorem dX5_put_30 : decode cX5_put 30 = .ok (.ireturn, 1) := by decide +kernel
theorem dX5_put_31 : decode cX5_put 31 = .ok (.aload_n 0, 1) := by decide +kernel
theorem dX5_put_32 : decode cX5_put 32 = .ok (.getfield 25, 3) := by decide +kernel
theorem dX5_put_35 : decode cX5_put 35 = .ok (.lload_n 1, 1) := by decide +kernel
theorem dX5_put_36 : decode cX5_put 36 = .ok (.iload_n 3, 1) := by decide +kernel
theorem dX5_put_37 : decode cX5_put 37 = .ok (.invokevirtual 167, 3) := by decide +kernel
theorem dX5_put_40 : decode cX5_put 40 = .ok (.aload_n 0, 1) := by decide +kernel
theorem dX5_put_41 : decode cX5_put 41 = .ok (.getfield 25, 3) := by decide +kernel
theorem dX5_put_44 : decode cX5_put 44 = .ok (.getfield 61, 3) := by decide +kernel
theorem dX5_put_47 : decode cX5_put 47 = .ok (.ireturn, 1) := by decide +kernel
theorem dX5_columnAt_0 : decode cX5_columnAt 0 = .ok (.iload_n 1, 1) := by decide +kernel
theorem dX5_columnAt_1 : decode cX5_columnAt 1 = .ok (.ifCond .lt 12, 3) := by decide +kernel
theorem dX5_columnAt_4 : decode cX5_columnAt 4 = .ok (.iload_n 1, 1) := by decide +kernel
theorem dX5_columnAt_5 : decode cX5_columnAt 5 = .ok (.aload_n 0, 1) := by decide +kernel
theorem dX5_columnAt_6 : decode cX5_columnAt 6 = .ok (.getfield 11, 3) := by decide +kernel
theorem dX5_columnAt_9 : decode cX5_columnAt 9 = .ok (.arraylength, 1) := by decide +kernel
theorem dX5_columnAt_10 : decode cX5_columnAt 10 = .ok (.if_icmp .lt 7, 3) := by decide +kernel
theorem dX5_columnAt_13 : decode cX5_columnAt 13 = .ok (.aconst_null, 1) := by decide +kernel
theorem dX5_columnAt_14 : decode cX5_columnAt 14 = .ok (.goto 9, 3) := by decide +kernel
theorem dX5_columnAt_17 : decode cX5_columnAt 17 = .ok (.aload_n 0, 1) := by decide +kernel
theorem dX5_columnAt_18 : decode cX5_columnAt 18 = .ok (.getfield 11, 3) := by decide +kernel
theorem dX5_columnAt_21 : decode cX5_columnAt 21 = .ok (.iload_n 1, 1) := by decide +kernel
theorem dX5_columnAt_22 : decode cX5_columnAt 22 = .ok (.aaload, 1) := by decide +kernel
theorem dX5_columnAt_23 : decode cX5_columnAt 23 = .ok (.areturn, 1) := by decide +kernel
theorem dX5_zigged_0 : decode cX5_zigged 0 = .ok (.lload_n 0, 1) := by decide +kernel
theorem dX5_zigged_1 : decode cX5_zigged 1 = .ok (.iconst 1, 1) := by decide +kernel
theorem dX5_zigged_2 : decode cX5_zigged 2 = .ok (.lshl, 1) := by decide +kernel
theorem dX5_zigged_3 : decode cX5_zigged 3 = .ok (.lload_n 0, 1) := by decide +kernel
theorem dX5_zigged_4 : decode cX5_zigged 4 = .ok (.bipush 63, 2) := by decide +kernel
theorem dX5_zigged_6 : decode cX5_zigged 6 = .ok (.lshr, 1) := by decide +kernel
theorem dX5_zigged_7 : decode cX5_zigged 7 = .ok (.lxor, 1) := by decide +kernel
theorem dX5_zigged_8 : decode cX5_zigged 8 = .ok (.lreturn, 1) := by decide +kernel
theorem dX5_unzigged_0 : decode cX5_unzigged 0 = .ok (.lload_n 0, 1) := by decide +kernel
theorem dX5_unzigged_1 : decode cX5_unzigged 1 = .ok (.iconst 1, 1) := by decide +kernel
theorem dX5_unzigged_2 : decode cX5_unzigged 2 = .ok (.lushr, 1) := by decide +kernel
theorem dX5_unzigged_3 : decode cX5_unzigged 3 = .ok (.lload_n 0, 1) := by decide +kernel
theorem dX5_unzigged_4 : decode cX5_unzigged 4 = .ok (.lconst 1, 1) := by decide +kernel
theorem dX5_unzigged_5 : decode cX5_unzigged 5 = .ok (.land, 1) := by decide +kernel
theorem dX5_unzigged_6 : decode cX5_unzigged 6 = .ok (.lneg, 1) := by decide +kernel
theorem dX5_unzigged_7 : decode cX5_unzigged 7 = .ok (.lxor, 1) := by decide +kernel
theorem dX5_unzigged_8 : decode cX5_unzigged 8 = .ok (.lreturn, 1) := by decide +kernel
theorem dX5_bitsOf_0 : decode cX5_bitsOf 0 = .ok (.iconst 0, 1) := by decide +kernel
theorem dX5_bitsOf_1 : decode cX5_bitsOf 1 = .ok (.istore_n 2, 1) := by decide +kernel
theorem dX5_bitsOf_2 : decode cX5_bitsOf 2 = .ok (.iload_n 2, 1) := by decide +kernel
theorem dX5_bitsOf_3 : decode cX5_bitsOf 3 = .ok (.bipush 64, 2) := by decide +kernel
theorem dX5_bitsOf_5 : decode cX5_bitsOf 5 = .ok (.if_icmp .ge 17, 3) := by decide +kernel
theorem dX5_bitsOf_8 : decode cX5_bitsOf 8 = .ok (.lload_n 0, 1) := by decide +kernel
theorem dX5_bitsOf_9 : decode cX5_bitsOf 9 = .ok (.iload_n 2, 1) := by decide +kernel
theorem dX5_bitsOf_10 : decode cX5_bitsOf 10 = .ok (.lushr, 1) := by decide +kernel
theorem dX5_bitsOf_11 : decode cX5_bitsOf 11 = .ok (.lconst 0, 1) := by decide +kernel
theorem dX5_bitsOf_12 : decode cX5_bitsOf 12 = .ok (.lcmp, 1) := by decide +kernel
theorem dX5_bitsOf_13 : decode cX5_bitsOf 13 = .ok (.ifCond .eq 9, 3) := by decide +kernel
theorem dX5_bitsOf_16 : decode cX5_bitsOf 16 = .ok (.iinc 2 1, 3) := by decide +kernel
theorem dX5_bitsOf_19 : decode cX5_bitsOf 19 = .ok (.goto (-17), 3) := by decide +kernel
theorem dX5_bitsOf_22 : decode cX5_bitsOf 22 = .ok (.iload_n 2, 1) := by decide +kernel
theorem dX5_bitsOf_23 : decode cX5_bitsOf 23 = .ok (.ireturn, 1) := by decide +kernel
theorem dX5_wholeGroups_0 : decode cX5_wholeGroups 0 = .ok (.iload_n 0, 1) := by decide +kernel
theorem dX5_wholeGroups_1 : decode cX5_wholeGroups 1 = .ok (.bipush 8, 2) := by decide +kernel
theorem dX5_wholeGroups_3 : decode cX5_wholeGroups 3 = .ok (.iadd, 1) := by decide +kernel
theorem dX5_wholeGroups_4 : decode cX5_wholeGroups 4 = .ok (.iconst 1, 1) := by decide +kernel
theorem dX5_wholeGroups_5 : decode cX5_wholeGroups 5 = .ok (.isub, 1) := by decide +kernel
theorem dX5_wholeGroups_6 : decode cX5_wholeGroups 6 = .ok (.bipush 8, 2) := by decide +kernel
theorem dX5_wholeGroups_8 : decode cX5_wholeGroups 8 = .ok (.idiv, 1) := by decide +kernel
theorem dX5_wholeGroups_9 : decode cX5_wholeGroups 9 = .ok (.ireturn, 1) := by decide +kernel
