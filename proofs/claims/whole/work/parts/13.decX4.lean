theorem dX4_init_0 : decode cX4_init 0 = .ok (.aload_n 0, 1) := by decide +kernel
theorem dX4_init_1 : decode cX4_init 1 = .ok (.invokespecial 3, 3) := by decide +kernel
theorem dX4_init_4 : decode cX4_init 4 = .ok (.aload_n 0, 1) := by decide +kernel
theorem dX4_init_5 : decode cX4_init 5 = .ok (.iconst 4, 1) := by decide +kernel
theorem dX4_init_6 : decode cX4_init 6 = .ok (.newarray .int, 2) := by decide +kernel
theorem dX4_init_8 : decode cX4_init 8 = .ok (.putfield 9, 3) := by decide +kernel
theorem dX4_init_11 : decode cX4_init 11 = .ok (.return_, 1) := by decide +kernel
theorem dX4_begin_0 : decode cX4_begin 0 = .ok (.aload_n 0, 1) := by decide +kernel
theorem dX4_begin_1 : decode cX4_begin 1 = .ok (.aload_n 1, 1) := by decide +kernel
theorem dX4_begin_2 : decode cX4_begin 2 = .ok (.putfield 15, 3) := by decide +kernel
theorem dX4_begin_5 : decode cX4_begin 5 = .ok (.aload_n 0, 1) := by decide +kernel
theorem dX4_begin_6 : decode cX4_begin 6 = .ok (.iconst 0, 1) := by decide +kernel
theorem dX4_begin_7 : decode cX4_begin 7 = .ok (.putfield 19, 3) := by decide +kernel
theorem dX4_begin_10 : decode cX4_begin 10 = .ok (.aload_n 0, 1) := by decide +kernel
theorem dX4_begin_11 : decode cX4_begin 11 = .ok (.aload_n 1, 1) := by decide +kernel
theorem dX4_begin_12 : decode cX4_begin 12 = .ok (.getfield 23, 3) := by decide +kernel
theorem dX4_begin_15 : decode cX4_begin 15 = .ok (.putfield 28, 3) := by decide +kernel
theorem dX4_begin_18 : decode cX4_begin 18 = .ok (.aload_n 0, 1) := by decide +kernel
theorem dX4_begin_19 : decode cX4_begin 19 = .ok (.iconst 0, 1) := by decide +kernel
theorem dX4_begin_20 : decode cX4_begin 20 = .ok (.putfield 31, 3) := by decide +kernel
theorem dX4_begin_23 : decode cX4_begin 23 = .ok (.aload_n 0, 1) := by decide +kernel
theorem dX4_begin_24 : decode cX4_begin 24 = .ok (.iconst 0, 1) := by decide +kernel
theorem dX4_begin_25 : decode cX4_begin 25 = .ok (.putfield 34, 3) := by decide +kernel
theorem dX4_begin_28 : decode cX4_begin 28 = .ok (.return_, 1) := by decide +kernel
theorem dX4_isSound_0 : decode cX4_isSound 0 = .ok (.aload_n 0, 1) := by decide +kernel
theorem dX4_isSound_1 : decode cX4_isSound 1 = .ok (.getfield 31, 3) := by decide +kernel
theorem dX4_isSound_4 : decode cX4_isSound 4 = .ok (.ifCond .ne 7, 3) := by decide +kernel
theorem dX4_isSound_7 : decode cX4_isSound 7 = .ok (.iconst 1, 1) := by decide +kernel
theorem dX4_isSound_8 : decode cX4_isSound 8 = .ok (.goto 4, 3) := by decide +kernel
theorem dX4_isSound_11 : decode cX4_isSound 11 = .ok (.iconst 0, 1) := by decide +kernel
theorem dX4_isSound_12 : decode cX4_isSound 12 = .ok (.ireturn, 1) := by decide +kernel
theorem dX4_left_0 : decode cX4_left 0 = .ok (.aload_n 0, 1) := by decide +kernel
theorem dX4_left_1 : decode cX4_left 1 = .ok (.getfield 28, 3) := by decide +kernel
theorem dX4_left_4 : decode cX4_left 4 = .ok (.aload_n 0, 1) := by decide +kernel
theorem dX4_left_5 : decode cX4_left 5 = .ok (.getfield 19, 3) := by decide +kernel
theorem dX4_left_8 : decode cX4_left 8 = .ok (.isub, 1) := by decide +kernel
theorem dX4_left_9 : decode cX4_left 9 = .ok (.ireturn, 1) := by decide +kernel
theorem dX4_demand_0 : decode cX4_demand 0 = .ok (.aload_n 0, 1) := by decide +kernel
theorem dX4_demand_1 : decode cX4_demand 1 = .ok (.getfield 31, 3) := by decide +kernel
theorem dX4_demand_4 : decode cX4_demand 4 = .ok (.ifCond .ne 17, 3) := by decide +kernel
theorem dX4_demand_7 : decode cX4_demand 7 = .ok (.iload_n 1, 1) := by decide +kernel
theorem dX4_demand_8 : decode cX4_demand 8 = .ok (.ifCond .ne 13, 3) := by decide +kernel
theorem dX4_demand_11 : decode cX4_demand 11 = .ok (.aload_n 0, 1) := by decide +kernel
theorem dX4_demand_12 : decode cX4_demand 12 = .ok (.iload_n 2, 1) := by decide +kernel
theorem dX4_demand_13 : decode cX4_demand 13 = .ok (.putfield 31, 3) := by decide +kernel
theorem dX4_demand_16 : decode cX4_demand 16 = .ok (.aload_n 0, 1) := by decide +kernel
theorem dX4_demand_17 : decode cX4_demand 17 = .ok (.iload_n 3, 1) := by decide +kernel
theorem dX4_demand_18 : decode cX4_demand 18 = .ok (.putfield 34, 3) := by decide +kernel
theorem dX4_demand_21 : decode cX4_demand 21 = .ok (.return_, 1) := by decide +kernel
theorem dX4_next_0 : decode cX4_next 0 = .ok (.aload_n 0, 1) := by decide +kernel
theorem dX4_next_1 : decode cX4_next 1 = .ok (.getfield 31, 3) := by decide +kernel
theorem dX4_next_4 : decode cX4_next 4 = .ok (.ifCond .ne 10, 3) := by decide +kernel
theorem dX4_next_7 : decode cX4_next 7 = .ok (.aload_n 0, 1) := by decide +kernel
theorem dX4_next_8 : decode cX4_next 8 = .ok (.getfield 15, 3) := by decide +kernel
theorem dX4_next_11 : decode cX4_next 11 = .ok (.ifnonnull 5, 3) := by decide +kernel
theorem dX4_next_14 : decode cX4_next 14 = .ok (.iconst 0, 1) := by decide +kernel
theorem dX4_next_15 : decode cX4_next 15 = .ok (.ireturn, 1) := by decide +kernel
theorem dX4_next_16 : decode cX4_next 16 = .ok (.aload_n 0, 1) := by decide +kernel
theorem dX4_next_17 : decode cX4_next 17 = .ok (.getfield 19, 3) := by decide +kernel
theorem dX4_next_20 : decode cX4_next 20 = .ok (.ifCond .lt 29, 3) := by decide +kernel
theorem dX4_next_23 : decode cX4_next 23 = .ok (.aload_n 0, 1) := by decide +kernel
theorem dX4_next_24 : decode cX4_next 24 = .ok (.getfield 19, 3) := by decide +kernel
theorem dX4_next_27 : decode cX4_next 27 = .ok (.aload_n 0, 1) := by decide +kernel
theorem dX4_next_28 : decode cX4_next 28 = .ok (.getfield 28, 3) := by decide +kernel
theorem dX4_next_31 : decode cX4_next 31 = .ok (.if_icmp .ge 18, 3) := by decide +kernel
theorem dX4_next_34 : decode cX4_next 34 = .ok (.aload_n 0, 1) := by decide +kernel
theorem dX4_next_35 : decode cX4_next 35 = .ok (.getfield 19, 3) := by decide +kernel
theorem dX4_next_38 : decode cX4_next 38 = .ok (.aload_n 0, 1) := by decide +kernel
theorem dX4_next_39 : decode cX4_next 39 = .ok (.getfield 15, 3) := by decide +kernel
theorem dX4_next_42 : decode cX4_next 42 = .ok (.getfield 37, 3) := by decide +kernel
theorem dX4_next_45 : decode cX4_next 45 = .ok (.arraylength, 1) := by decide +kernel
theorem dX4_next_46 : decode cX4_next 46 = .ok (.if_icmp .lt 18, 3) := by decide +kernel
theorem dX4_next_49 : decode cX4_next 49 = .ok (.aload_n 0, 1) := by decide +kernel
theorem dX4_next_50 : decode cX4_next 50 = .ok (.iconst 1, 1) := by decide +kernel
theorem dX4_next_51 : decode cX4_next 51 = .ok (.putfield 31, 3) := by decide +kernel
theorem dX4_next_54 : decode cX4_next 54 = .ok (.aload_n 0, 1) := by decide +kernel
theorem dX4_next_55 : decode cX4_next 55 = .ok (.aload_n 0, 1) := by decide +kernel
theorem dX4_next_56 : decode cX4_next 56 = .ok (.getfield 19, 3) := by decide +kernel
theorem dX4_next_59 : decode cX4_next 59 = .ok (.putfield 34, 3) := by decide +kernel
theorem dX4_next_62 : decode cX4_next 62 = .ok (.iconst 0, 1) := by decide +kernel
theorem dX4_next_63 : decode cX4_next 63 = .ok (.ireturn, 1) := by decide +kernel
theorem dX4_next_64 : decode cX4_next 64 = .ok (.aload_n 0, 1) := by decide +kernel
theorem dX4_next_65 : decode cX4_next 65 = .ok (.getfield 15, 3) := by decide +kernel
theorem dX4_next_68 : decode cX4_next 68 = .ok (.getfield 37, 3) := by decide +kernel
theorem dX4_next_71 : decode cX4_next 71 = .ok (.aload_n 0, 1) := by decide +kernel
theorem dX4_next_72 : decode cX4_next 72 = .ok (.getfield 19, 3) := by decide +kernel
theorem dX4_next_75 : decode cX4_next 75 = .ok (.baload, 1) := by decide +kernel
theorem dX4_next_76 : decode cX4_next 76 = .ok (.sipush 255, 3) := by decide +kernel
theorem dX4_next_79 : decode cX4_next 79 = .ok (.iand, 1) := by decide +kernel
theorem dX4_next_80 : decode cX4_next 80 = .ok (.istore_n 1, 1) := by decide +kernel
theorem dX4_next_81 : decode cX4_next 81 = .ok (.aload_n 0, 1) := by decide +kernel
theorem dX4_next_82 : decode cX4_next 82 = .ok (.dup, 1) := by decide +kernel
theorem dX4_next_83 : decode cX4_next 83 = .ok (.getfield 19, 3) := by decide +kernel
theorem dX4_next_86 : decode cX4_next 86 = .ok (.iconst 1, 1) := by decide +kernel
theorem dX4_next_87 : decode cX4_next 87 = .ok (.iadd, 1) := by decide +kernel
theorem dX4_next_88 : decode cX4_next 88 = .ok (.putfield 19, 3) := by decide +kernel
theorem dX4_next_91 : decode cX4_next 91 = .ok (.iload_n 1, 1) := by decide +kernel
theorem dX4_next_92 : decode cX4_next 92 = .ok (.ireturn, 1) := by decide +kernel
theorem dX4_expect_0 : decode cX4_expect 0 = .ok (.aload_n 0, 1) := by decide +kernel
theorem dX4_expect_1 : decode cX4_expect 1 = .ok (.getfield 19, 3) := by decide +kernel
theorem dX4_expect_4 : decode cX4_expect 4 = .ok (.istore_n 2, 1) := by decide +kernel
theorem dX4_expect_5 : decode cX4_expect 5 = .ok (.aload_n 0, 1) := by decide +kernel
theorem dX4_expect_6 : decode cX4_expect 6 = .ok (.aload_n 0, 1) := by decide +kernel
theorem dX4_expect_7 : decode cX4_expect 7 = .ok (.invokevirtual 41, 3) := by decide +kernel
theorem dX4_expect_10 : decode cX4_expect 10 = .ok (.iload_n 1, 1) := by decide +kernel
theorem dX4_expect_11 : decode cX4_expect 11 = .ok (.if_icmp .ne 7, 3) := by decide +kernel
theorem dX4_expect_14 : decode cX4_expect 14 = .ok (.iconst 1, 1) := by decide +kernel
theorem dX4_expect_15 : decode cX4_expect 15 = .ok (.goto 4, 3) := by decide +kernel
theorem dX4_expect_18 : decode cX4_expect 18 = .ok (.iconst 0, 1) := by decide +kernel
theorem dX4_expect_19 : decode cX4_expect 19 = .ok (.bipush 7, 2) := by decide +kernel
theorem dX4_expect_21 : decode cX4_expect 21 = .ok (.iload_n 2, 1) := by decide +kernel
theorem dX4_expect_22 : decode cX4_expect 22 = .ok (.invokevirtual 45, 3) := by decide +kernel
theorem dX4_expect_25 : decode cX4_expect 25 = .ok (.return_, 1) := by decide +kernel
theorem dX4_demandNothingLeft_0 : decode cX4_demandNothingLeft 0 = .ok (.aload_n 0, 1) := by decide +kernel
theorem dX4_demandNothingLeft_1 : decode cX4_demandNothingLeft 1 = .ok (.aload_n 0, 1) := by decide +kernel
theorem dX4_demandNothingLeft_2 : decode cX4_demandNothingLeft 2 = .ok (.getfield 19, 3) := by decide +kernel
theorem dX4_demandNothingLeft_5 : decode cX4_demandNothingLeft 5 = .ok (.aload_n 0, 1) := by decide +kernel
theorem dX4_demandNothingLeft_6 : decode cX4_demandNothingLeft 6 = .ok (.getfield 28, 3) := by decide +kernel
theorem dX4_demandNothingLeft_9 : decode cX4_demandNothingLeft 9 = .ok (.if_icmp .lt 7, 3) := by decide +kernel
theorem dX4_demandNothingLeft_12 : decode cX4_demandNothingLeft 12 = .ok (.iconst 1, 1) := by decide +kernel
theorem dX4_demandNothingLeft_13 : decode cX4_demandNothingLeft 13 = .ok (.goto 4, 3) := by decide +kernel
theorem dX4_demandNothingLeft_16 : decode cX4_demandNothingLeft 16 = .ok (.iconst 0, 1) := by decide +kernel
theorem dX4_demandNothingLeft_17 : decode cX4_demandNothingLeft 17 = .ok (.bipush 13, 2) := by decide +kernel
theorem dX4_demandNothingLeft_19 : decode cX4_demandNothingLeft 19 = .ok (.aload_n 0, 1) := by decide +kernel
theorem dX4_demandNothingLeft_20 : decode cX4_demandNothingLeft 20 = .ok (.getfield 19, 3) := by decide +kernel
theorem dX4_demandNothingLeft_23 : decode cX4_demandNothingLeft 23 = .ok (.invokevirtual 45, 3) := by decide +kernel
theorem dX4_demandNothingLeft_26 : decode cX4_demandNothingLeft 26 = .ok (.return_, 1) := by decide +kernel
theorem dX4_nextLittle_0 : decode cX4_nextLittle 0 = .ok (.lconst 0, 1) := by decide +kernel
theorem dX4_nextLittle_1 : decode cX4_nextLittle 1 = .ok (.lstore_n 2, 1) := by decide +kernel
theorem dX4_nextLittle_2 : decode cX4_nextLittle 2 = .ok (.iconst 0, 1) := by decide +kernel
theorem dX4_nextLittle_3 : decode cX4_nextLittle 3 = .ok (.istore 4, 2) := by decide +kernel
theorem dX4_nextLittle_5 : decode cX4_nextLittle 5 = .ok (.iload 4, 2) := by decide +kernel
theorem dX4_nextLittle_7 : decode cX4_nextLittle 7 = .ok (.iload_n 1, 1) := by decide +kernel
theorem dX4_nextLittle_8 : decode cX4_nextLittle 8 = .ok (.if_icmp .ge 23, 3) := by decide +kernel
theorem dX4_nextLittle_11 : decode cX4_nextLittle 11 = .ok (.lload_n 2, 1) := by decide +kernel
theorem dX4_nextLittle_12 : decode cX4_nextLittle 12 = .ok (.aload_n 0, 1) := by decide +kernel
theorem dX4_nextLittle_13 : decode cX4_nextLittle 13 = .ok (.invokevirtual 41, 3) := by decide +kernel
theorem dX4_nextLittle_16 : decode cX4_nextLittle 16 = .ok (.i2l, 1) := by decide +kernel
theorem dX4_nextLittle_17 : decode cX4_nextLittle 17 = .ok (.bipush 8, 2) := by decide +kernel
theorem dX4_nextLittle_19 : decode cX4_nextLittle 19 = .ok (.iload 4, 2) := by decide +kernel
theorem dX4_nextLittle_21 : decode cX4_nextLittle 21 = .ok (.imul, 1) := by decide +kernel
theorem dX4_nextLittle_22 : decode cX4_nextLittle 22 = .ok (.lshl, 1) := by decide +kernel
theorem dX4_nextLittle_23 : decode cX4_nextLittle 23 = .ok (.lor, 1) := by decide +kernel
theorem dX4_nextLittle_24 : decode cX4_nextLittle 24 = .ok (.lstore_n 2, 1) := by decide +kernel
theorem dX4_nextLittle_25 : decode cX4_nextLittle 25 = .ok (.iinc 4 1, 3) := by decide +kernel
theorem dX4_nextLittle_28 : decode cX4_nextLittle 28 = .ok (.goto (-23), 3) := by decide +kernel
theorem dX4_nextLittle_31 : decode cX4_nextLittle 31 = .ok (.lload_n 2, 1) := by decide +kernel
theorem dX4_nextLittle_32 : decode cX4_nextLittle 32 = .ok (.lreturn, 1) := by decide +kernel
theorem dX4_nextVar_0 : decode cX4_nextVar 0 = .ok (.lconst 0, 1) := by decide +kernel
theorem dX4_nextVar_1 : decode cX4_nextVar 1 = .ok (.lstore_n 1, 1) := by decide +kernel
theorem dX4_nextVar_2 : decode cX4_nextVar 2 = .ok (.iconst 0, 1) := by decide +kernel
theorem dX4_nextVar_3 : decode cX4_nextVar 3 = .ok (.istore_n 3, 1) := by decide +kernel
theorem dX4_nextVar_4 : decode cX4_nextVar 4 = .ok (.iload_n 3, 1) := by decide +kernel
theorem dX4_nextVar_5 : decode cX4_nextVar 5 = .ok (.bipush 10, 2) := by decide +kernel
theorem dX4_nextVar_7 : decode cX4_nextVar 7 = .ok (.if_icmp .ge 68, 3) := by decide +kernel
theorem dX4_nextVar_10 : decode cX4_nextVar 10 = .ok (.aload_n 0, 1) := by decide +kernel
theorem dX4_nextVar_11 : decode cX4_nextVar 11 = .ok (.invokevirtual 41, 3) := by decide +kernel
theorem dX4_nextVar_14 : decode cX4_nextVar 14 = .ok (.istore 4, 2) := by decide +kernel
theorem dX4_nextVar_16 : decode cX4_nextVar 16 = .ok (.lload_n 1, 1) := by decide +kernel
theorem dX4_nextVar_17 : decode cX4_nextVar 17 = .ok (.iload 4, 2) := by decide +kernel
theorem dX4_nextVar_19 : decode cX4_nextVar 19 = .ok (.bipush 127, 2) := by decide +kernel
theorem dX4_nextVar_21 : decode cX4_nextVar 21 = .ok (.iand, 1) := by decide +kernel
theorem dX4_nextVar_22 : decode cX4_nextVar 22 = .ok (.i2l, 1) := by decide +kernel
theorem dX4_nextVar_23 : decode cX4_nextVar 23 = .ok (.bipush 7, 2) := by decide +kernel
theorem dX4_nextVar_25 : decode cX4_nextVar 25 = .ok (.iload_n 3, 1) := by decide +kernel
theorem dX4_nextVar_26 : decode cX4_nextVar 26 = .ok (.imul, 1) := by decide +kernel
theorem dX4_nextVar_27 : decode cX4_nextVar 27 = .ok (.lshl, 1) := by decide +kernel
theorem dX4_nextVar_28 : decode cX4_nextVar 28 = .ok (.lor, 1) := by decide +kernel
theorem dX4_nextVar_29 : decode cX4_nextVar 29 = .ok (.lstore_n 1, 1) := by decide +kernel
theorem dX4_nextVar_30 : decode cX4_nextVar 30 = .ok (.iload_n 3, 1) := by decide +kernel
theorem dX4_nextVar_31 : decode cX4_nextVar 31 = .ok (.bipush 9, 2) := by decide +kernel
theorem dX4_nextVar_33 : decode cX4_nextVar 33 = .ok (.if_icmp .ne 25, 3) := by decide +kernel
theorem dX4_nextVar_36 : decode cX4_nextVar 36 = .ok (.aload_n 0, 1) := by decide +kernel
theorem dX4_nextVar_37 : decode cX4_nextVar 37 = .ok (.iload 4, 2) := by decide +kernel
theorem dX4_nextVar_39 : decode cX4_nextVar 39 = .ok (.iconst 1, 1) := by decide +kernel
theorem dX4_nextVar_40 : decode cX4_nextVar 40 = .ok (.if_icmp .gt 7, 3) := by decide +kernel
theorem dX4_nextVar_43 : decode cX4_nextVar 43 = .ok (.iconst 1, 1) := by decide +kernel
theorem dX4_nextVar_44 : decode cX4_nextVar 44 = .ok (.goto 4, 3) := by decide +kernel
theorem dX4_nextVar_47 : decode cX4_nextVar 47 = .ok (.iconst 0, 1) := by decide +kernel
theorem dX4_nextVar_48 : decode cX4_nextVar 48 = .ok (.iconst 2, 1) := by decide +kernel
theorem dX4_nextVar_49 : decode cX4_nextVar 49 = .ok (.aload_n 0, 1) := by decide +kernel
theorem dX4_nextVar_50 : decode cX4_nextVar 50 = .ok (.getfield 19, 3) := by decide +kernel
theorem dX4_nextVar_53 : decode cX4_nextVar 53 = .ok (.iconst 1, 1) := by decide +kernel
theorem dX4_nextVar_54 : decode cX4_nextVar 54 = .ok (.isub, 1) := by decide +kernel
theorem dX4_nextVar_55 : decode cX4_nextVar 55 = .ok (.invokevirtual 45, 3) := by decide +kernel
theorem dX4_nextVar_58 : decode cX4_nextVar 58 = .ok (.iload 4, 2) := by decide +kernel
theorem dX4_nextVar_60 : decode cX4_nextVar 60 = .ok (.sipush 128, 3) := by decide +kernel
theorem dX4_nextVar_63 : decode cX4_nextVar 63 = .ok (.if_icmp .ge 6, 3) := by decide +kernel
theorem dX4_nextVar_66 : decode cX4_nextVar 66 = .ok (.goto 9, 3) := by decide +kernel
theorem dX4_nextVar_69 : decode cX4_nextVar 69 = .ok (.iinc 3 1, 3) := by decide +kernel
theorem dX4_nextVar_72 : decode cX4_nextVar 72 = .ok (.goto (-68), 3) := by decide +kernel
theorem dX4_nextVar_75 : decode cX4_nextVar 75 = .ok (.lload_n 1, 1) := by decide +kernel
theorem dX4_nextVar_76 : decode cX4_nextVar 76 = .ok (.lreturn, 1) := by decide +kernel
theorem dX4_nextText_0 : decode cX4_nextText 0 = .ok (.aload_n 0, 1) := by decide +kernel
theorem dX4_nextText_1 : decode cX4_nextText 1 = .ok (.getfield 31, 3) := by decide +kernel
theorem dX4_nextText_4 : decode cX4_nextText 4 = .ok (.ifCond .ne 45, 3) := by decide +kernel
theorem dX4_nextText_7 : decode cX4_nextText 7 = .ok (.aload_n 0, 1) := by decide +kernel
theorem dX4_nextText_8 : decode cX4_nextText 8 = .ok (.getfield 15, 3) := by decide +kernel
theorem dX4_nextText_11 : decode cX4_nextText 11 = .ok (.ifnull 38, 3) := by decide +kernel
theorem dX4_nextText_14 : decode cX4_nextText 14 = .ok (.iload_n 2, 1) := by decide +kernel
theorem dX4_nextText_15 : decode cX4_nextText 15 = .ok (.ifCond .lt 34, 3) := by decide +kernel
theorem dX4_nextText_18 : decode cX4_nextText 18 = .ok (.iload_n 2, 1) := by decide +kernel
theorem dX4_nextText_19 : decode cX4_nextText 19 = .ok (.aload_n 0, 1) := by decide +kernel
theorem dX4_nextText_20 : decode cX4_nextText 20 = .ok (.invokevirtual 49, 3) := by decide +kernel
theorem dX4_nextText_23 : decode cX4_nextText 23 = .ok (.if_icmp .gt 26, 3) := by decide +kernel
theorem dX4_nextText_26 : decode cX4_nextText 26 = .ok (.aload_n 1, 1) := by decide +kernel
theorem dX4_nextText_27 : decode cX4_nextText 27 = .ok (.aload_n 0, 1) := by decide +kernel
theorem dX4_nextText_28 : decode cX4_nextText 28 = .ok (.getfield 15, 3) := by decide +kernel
theorem dX4_nextText_31 : decode cX4_nextText 31 = .ok (.aload_n 0, 1) := by decide +kernel
theorem dX4_nextText_32 : decode cX4_nextText 32 = .ok (.getfield 19, 3) := by decide +kernel
theorem dX4_nextText_35 : decode cX4_nextText 35 = .ok (.iload_n 2, 1) := by decide +kernel
theorem dX4_nextText_36 : decode cX4_nextText 36 = .ok (.invokevirtual 52, 3) := by decide +kernel
theorem dX4_nextText_39 : decode cX4_nextText 39 = .ok (.aload_n 0, 1) := by decide +kernel
theorem dX4_nextText_40 : decode cX4_nextText 40 = .ok (.dup, 1) := by decide +kernel
theorem dX4_nextText_41 : decode cX4_nextText 41 = .ok (.getfield 19, 3) := by decide +kernel
theorem dX4_nextText_44 : decode cX4_nextText 44 = .ok (.iload_n 2, 1) := by decide +kernel
theorem dX4_nextText_45 : decode cX4_nextText 45 = .ok (.iadd, 1) := by decide +kernel
theorem dX4_nextText_46 : decode cX4_nextText 46 = .ok (.putfield 19, 3) := by decide +kernel
theorem dX4_nextText_49 : decode cX4_nextText 49 = .ok (.return_, 1) := by decide +kernel
theorem dX4_nextPacked_0 : decode cX4_nextPacked 0 = .ok (.iconst 0, 1) := by decide +kernel
theorem dX4_nextPacked_1 : decode cX4_nextPacked 1 = .ok (.istore 6, 2) := by decide +kernel
theorem dX4_nextPacked_3 : decode cX4_nextPacked 3 = .ok (.iconst 0, 1) := by decide +kernel
theorem dX4_nextPacked_4 : decode cX4_nextPacked 4 = .ok (.istore 7, 2) := by decide +kernel
theorem dX4_nextPacked_6 : decode cX4_nextPacked 6 = .ok (.iload_n 2, 1) := by decide +kernel
theorem dX4_nextPacked_7 : decode cX4_nextPacked 7 = .ok (.istore 8, 2) := by decide +kernel
theorem dX4_nextPacked_9 : decode cX4_nextPacked 9 = .ok (.iload 8, 2) := by decide +kernel
theorem dX4_nextPacked_11 : decode cX4_nextPacked 11 = .ok (.iload_n 2, 1) := by decide +kernel
theorem dX4_nextPacked_12 : decode cX4_nextPacked 12 = .ok (.iload 4, 2) := by decide +kernel
theorem dX4_nextPacked_14 : decode cX4_nextPacked 14 = .ok (.iadd, 1) := by decide +kernel
theorem dX4_nextPacked_15 : decode cX4_nextPacked 15 = .ok (.if_icmp .ge 96, 3) := by decide +kernel
theorem dX4_nextPacked_18 : decode cX4_nextPacked 18 = .ok (.aload_n 0, 1) := by decide +kernel
theorem dX4_nextPacked_19 : decode cX4_nextPacked 19 = .ok (.getfield 31, 3) := by decide +kernel
theorem dX4_nextPacked_22 : decode cX4_nextPacked 22 = .ok (.ifCond .ne 89, 3) := by decide +kernel
theorem dX4_nextPacked_25 : decode cX4_nextPacked 25 = .ok (.lconst 0, 1) := by decide +kernel
theorem dX4_nextPacked_26 : decode cX4_nextPacked 26 = .ok (.lstore 9, 2) := by decide +kernel
theorem dX4_nextPacked_28 : decode cX4_nextPacked 28 = .ok (.iconst 0, 1) := by decide +kernel
theorem dX4_nextPacked_29 : decode cX4_nextPacked 29 = .ok (.istore 11, 2) := by decide +kernel
theorem dX4_nextPacked_31 : decode cX4_nextPacked 31 = .ok (.iload 11, 2) := by decide +kernel
theorem dX4_nextPacked_33 : decode cX4_nextPacked 33 = .ok (.iload 5, 2) := by decide +kernel
theorem dX4_nextPacked_35 : decode cX4_nextPacked 35 = .ok (.if_icmp .ge 46, 3) := by decide +kernel
theorem dX4_nextPacked_38 : decode cX4_nextPacked 38 = .ok (.iload 7, 2) := by decide +kernel
theorem dX4_nextPacked_40 : decode cX4_nextPacked 40 = .ok (.ifCond .ne 13, 3) := by decide +kernel
theorem dX4_nextPacked_43 : decode cX4_nextPacked 43 = .ok (.aload_n 0, 1) := by decide +kernel
theorem dX4_nextPacked_44 : decode cX4_nextPacked 44 = .ok (.invokevirtual 41, 3) := by decide +kernel
theorem dX4_nextPacked_47 : decode cX4_nextPacked 47 = .ok (.istore 6, 2) := by decide +kernel
theorem dX4_nextPacked_49 : decode cX4_nextPacked 49 = .ok (.bipush 8, 2) := by decide +kernel
theorem dX4_nextPacked_51 : decode cX4_nextPacked 51 = .ok (.istore 7, 2) := by decide +kernel
theorem dX4_nextPacked_53 : decode cX4_nextPacked 53 = .ok (.lload 9, 2) := by decide +kernel
theorem dX4_nextPacked_55 : decode cX4_nextPacked 55 = .ok (.iload 6, 2) := by decide +kernel
theorem dX4_nextPacked_57 : decode cX4_nextPacked 57 = .ok (.iconst 1, 1) := by decide +kernel
theorem dX4_nextPacked_58 : decode cX4_nextPacked 58 = .ok (.iand, 1) := by decide +kernel
theorem dX4_nextPacked_59 : decode cX4_nextPacked 59 = .ok (.i2l, 1) := by decide +kernel
theorem dX4_nextPacked_60 : decode cX4_nextPacked 60 = .ok (.iload 11, 2) := by decide +kernel
theorem dX4_nextPacked_62 : decode cX4_nextPacked 62 = .ok (.lshl, 1) := by decide +kernel
theorem dX4_nextPacked_63 : decode cX4_nextPacked 63 = .ok (.lor, 1) := by decide +kernel
theorem dX4_nextPacked_64 : decode cX4_nextPacked 64 = .ok (.lstore 9, 2) := by decide +kernel
theorem dX4_nextPacked_66 : decode cX4_nextPacked 66 = .ok (.iload 6, 2) := by decide +kernel
theorem dX4_nextPacked_68 : decode cX4_nextPacked 68 = .ok (.iconst 1, 1) := by decide +kernel
theorem dX4_nextPacked_69 : decode cX4_nextPacked 69 = .ok (.ishr, 1) := by decide +kernel
theorem dX4_nextPacked_70 : decode cX4_nextPacked 70 = .ok (.istore 6, 2) := by decide +kernel
theorem dX4_nextPacked_72 : decode cX4_nextPacked 72 = .ok (.iinc 7 (-1), 3) := by decide +kernel
theorem dX4_nextPacked_75 : decode cX4_nextPacked 75 = .ok (.iinc 11 1, 3) := by decide +kernel
theorem dX4_nextPacked_78 : decode cX4_nextPacked 78 = .ok (.goto (-47), 3) := by decide +kernel
theorem dX4_nextPacked_81 : decode cX4_nextPacked 81 = .ok (.iload 8, 2) := by decide +kernel
theorem dX4_nextPacked_83 : decode cX4_nextPacked 83 = .ok (.ifCond .lt 22, 3) := by decide +kernel
theorem dX4_nextPacked_86 : decode cX4_nextPacked 86 = .ok (.iload 8, 2) := by decide +kernel
theorem dX4_nextPacked_88 : decode cX4_nextPacked 88 = .ok (.iload_n 3, 1) := by decide +kernel
theorem dX4_nextPacked_89 : decode cX4_nextPacked 89 = .ok (.if_icmp .ge 16, 3) := by decide +kernel
theorem dX4_nextPacked_92 : decode cX4_nextPacked 92 = .ok (.iload 8, 2) := by decide +kernel
theorem dX4_nextPacked_94 : decode cX4_nextPacked 94 = .ok (.aload_n 1, 1) := by decide +kernel
theorem dX4_nextPacked_95 : decode cX4_nextPacked 95 = .ok (.arraylength, 1) := by decide +kernel
theorem dX4_nextPacked_96 : decode cX4_nextPacked 96 = .ok (.if_icmp .ge 9, 3) := by decide +kernel
theorem dX4_nextPacked_99 : decode cX4_nextPacked 99 = .ok (.aload_n 1, 1) := by decide +kernel
theorem dX4_nextPacked_100 : decode cX4_nextPacked 100 = .ok (.iload 8, 2) := by decide +kernel
theorem dX4_nextPacked_102 : decode cX4_nextPacked 102 = .ok (.lload 9, 2) := by decide +kernel
theorem dX4_nextPacked_104 : decode cX4_nextPacked 104 = .ok (.lastore, 1) := by decide +kernel
theorem dX4_nextPacked_105 : decode cX4_nextPacked 105 = .ok (.iinc 8 1, 3) := by decide +kernel
theorem dX4_nextPacked_108 : decode cX4_nextPacked 108 = .ok (.goto (-99), 3) := by decide +kernel
theorem dX4_nextPacked_111 : decode cX4_nextPacked 111 = .ok (.return_, 1) := by decide +kernel
theorem dX4_nextRuns_0 : decode cX4_nextRuns 0 = .ok (.iconst 0, 1) := by decide +kernel
theorem dX4_nextRuns_1 : decode cX4_nextRuns 1 = .ok (.istore 4, 2) := by decide +kernel
theorem dX4_nextRuns_3 : decode cX4_nextRuns 3 = .ok (.iconst 0, 1) := by decide +kernel
theorem dX4_nextRuns_4 : decode cX4_nextRuns 4 = .ok (.istore 5, 2) := by decide +kernel
theorem dX4_nextRuns_6 : decode cX4_nextRuns 6 = .ok (.iload 5, 2) := by decide +kernel
theorem dX4_nextRuns_8 : decode cX4_nextRuns 8 = .ok (.iload_n 2, 1) := by decide +kernel
theorem dX4_nextRuns_9 : decode cX4_nextRuns 9 = .ok (.if_icmp .ge 210, 3) := by decide +kernel
theorem dX4_nextRuns_12 : decode cX4_nextRuns 12 = .ok (.iload 4, 2) := by decide +kernel
theorem dX4_nextRuns_14 : decode cX4_nextRuns 14 = .ok (.iload_n 2, 1) := by decide +kernel
theorem dX4_nextRuns_15 : decode cX4_nextRuns 15 = .ok (.if_icmp .ge 204, 3) := by decide +kernel
theorem dX4_nextRuns_18 : decode cX4_nextRuns 18 = .ok (.aload_n 0, 1) := by decide +kernel
theorem dX4_nextRuns_19 : decode cX4_nextRuns 19 = .ok (.getfield 31, 3) := by decide +kernel
theorem dX4_nextRuns_22 : decode cX4_nextRuns 22 = .ok (.ifCond .ne 197, 3) := by decide +kernel
theorem dX4_nextRuns_25 : decode cX4_nextRuns 25 = .ok (.aload_n 0, 1) := by decide +kernel
theorem dX4_nextRuns_26 : decode cX4_nextRuns 26 = .ok (.getfield 19, 3) := by decide +kernel
theorem dX4_nextRuns_29 : decode cX4_nextRuns 29 = .ok (.istore 6, 2) := by decide +kernel
theorem dX4_nextRuns_31 : decode cX4_nextRuns 31 = .ok (.aload_n 0, 1) := by decide +kernel
theorem dX4_nextRuns_32 : decode cX4_nextRuns 32 = .ok (.invokevirtual 58, 3) := by decide +kernel
theorem dX4_nextRuns_35 : decode cX4_nextRuns 35 = .ok (.lstore 7, 2) := by decide +kernel
theorem dX4_nextRuns_37 : decode cX4_nextRuns 37 = .ok (.lload 7, 2) := by decide +kernel
theorem dX4_nextRuns_39 : decode cX4_nextRuns 39 = .ok (.lconst 1, 1) := by decide +kernel
theorem dX4_nextRuns_40 : decode cX4_nextRuns 40 = .ok (.land, 1) := by decide +kernel
theorem dX4_nextRuns_41 : decode cX4_nextRuns 41 = .ok (.lconst 0, 1) := by decide +kernel
theorem dX4_nextRuns_42 : decode cX4_nextRuns 42 = .ok (.lcmp, 1) := by decide +kernel
theorem dX4_nextRuns_43 : decode cX4_nextRuns 43 = .ok (.ifCond .eq 7, 3) := by decide +kernel
theorem dX4_nextRuns_46 : decode cX4_nextRuns 46 = .ok (.iconst 1, 1) := by decide +kernel
theorem dX4_nextRuns_47 : decode cX4_nextRuns 47 = .ok (.goto 4, 3) := by decide +kernel
theorem dX4_nextRuns_50 : decode cX4_nextRuns 50 = .ok (.iconst 0, 1) := by decide +kernel
theorem dX4_nextRuns_51 : decode cX4_nextRuns 51 = .ok (.istore 9, 2) := by decide +kernel
theorem dX4_nextRuns_53 : decode cX4_nextRuns 53 = .ok (.lload 7, 2) := by decide +kernel
theorem dX4_nextRuns_55 : decode cX4_nextRuns 55 = .ok (.iconst 1, 1) := by decide +kernel
theorem dX4_nextRuns_56 : decode cX4_nextRuns 56 = .ok (.lushr, 1) := by decide +kernel
theorem dX4_nextRuns_57 : decode cX4_nextRuns 57 = .ok (.lstore 10, 2) := by decide +kernel
theorem dX4_nextRuns_59 : decode cX4_nextRuns 59 = .ok (.iload 9, 2) := by decide +kernel
theorem dX4_nextRuns_61 : decode cX4_nextRuns 61 = .ok (.ifCond .eq 14, 3) := by decide +kernel
theorem dX4_nextRuns_64 : decode cX4_nextRuns 64 = .ok (.iload_n 2, 1) := by decide +kernel
theorem dX4_nextRuns_65 : decode cX4_nextRuns 65 = .ok (.iload 4, 2) := by decide +kernel
theorem dX4_nextRuns_67 : decode cX4_nextRuns 67 = .ok (.isub, 1) := by decide +kernel
theorem dX4_nextRuns_68 : decode cX4_nextRuns 68 = .ok (.invokestatic 62, 3) := by decide +kernel
theorem dX4_nextRuns_71 : decode cX4_nextRuns 71 = .ok (.i2l, 1) := by decide +kernel
theorem dX4_nextRuns_72 : decode cX4_nextRuns 72 = .ok (.goto 8, 3) := by decide +kernel
theorem dX4_nextRuns_75 : decode cX4_nextRuns 75 = .ok (.iload_n 2, 1) := by decide +kernel
theorem dX4_nextRuns_76 : decode cX4_nextRuns 76 = .ok (.iload 4, 2) := by decide +kernel
theorem dX4_nextRuns_78 : decode cX4_nextRuns 78 = .ok (.isub, 1) := by decide +kernel
theorem dX4_nextRuns_79 : decode cX4_nextRuns 79 = .ok (.i2l, 1) := by decide +kernel
theorem dX4_nextRuns_80 : decode cX4_nextRuns 80 = .ok (.lstore 12, 2) := by decide +kernel
theorem dX4_nextRuns_82 : decode cX4_nextRuns 82 = .ok (.aload_n 0, 1) := by decide +kernel
theorem dX4_nextRuns_83 : decode cX4_nextRuns 83 = .ok (.lload 10, 2) := by decide +kernel
theorem dX4_nextRuns_85 : decode cX4_nextRuns 85 = .ok (.lconst 1, 1) := by decide +kernel
theorem dX4_nextRuns_86 : decode cX4_nextRuns 86 = .ok (.lcmp, 1) := by decide +kernel
theorem dX4_nextRuns_87 : decode cX4_nextRuns 87 = .ok (.ifCond .lt 15, 3) := by decide +kernel
theorem dX4_nextRuns_90 : decode cX4_nextRuns 90 = .ok (.lload 10, 2) := by decide +kernel
theorem dX4_nextRuns_92 : decode cX4_nextRuns 92 = .ok (.lload 12, 2) := by decide +kernel
theorem dX4_nextRuns_94 : decode cX4_nextRuns 94 = .ok (.lcmp, 1) := by decide +kernel
theorem dX4_nextRuns_95 : decode cX4_nextRuns 95 = .ok (.ifCond .gt 7, 3) := by decide +kernel
theorem dX4_nextRuns_98 : decode cX4_nextRuns 98 = .ok (.iconst 1, 1) := by decide +kernel
theorem dX4_nextRuns_99 : decode cX4_nextRuns 99 = .ok (.goto 4, 3) := by decide +kernel
theorem dX4_nextRuns_102 : decode cX4_nextRuns 102 = .ok (.iconst 0, 1) := by decide +kernel
theorem dX4_nextRuns_103 : decode cX4_nextRuns 103 = .ok (.iconst 3, 1) := by decide +kernel
theorem dX4_nextRuns_104 : decode cX4_nextRuns 104 = .ok (.iload 6, 2) := by decide +kernel
theorem dX4_nextRuns_106 : decode cX4_nextRuns 106 = .ok (.invokevirtual 45, 3) := by decide +kernel
theorem dX4_nextRuns_109 : decode cX4_nextRuns 109 = .ok (.aload_n 0, 1) := by decide +kernel
theorem dX4_nextRuns_110 : decode cX4_nextRuns 110 = .ok (.getfield 31, 3) := by decide +kernel
theorem dX4_nextRuns_113 : decode cX4_nextRuns 113 = .ok (.ifCond .eq 4, 3) := by decide +kernel
theorem dX4_nextRuns_116 : decode cX4_nextRuns 116 = .ok (.return_, 1) := by decide +kernel
theorem dX4_nextRuns_117 : decode cX4_nextRuns 117 = .ok (.iload 9, 2) := by decide +kernel
theorem dX4_nextRuns_119 : decode cX4_nextRuns 119 = .ok (.ifCond .eq 32, 3) := by decide +kernel
theorem dX4_nextRuns_122 : decode cX4_nextRuns 122 = .ok (.aload_n 0, 1) := by decide +kernel
theorem dX4_nextRuns_123 : decode cX4_nextRuns 123 = .ok (.aload_n 1, 1) := by decide +kernel
theorem dX4_nextRuns_124 : decode cX4_nextRuns 124 = .ok (.iload 4, 2) := by decide +kernel
theorem dX4_nextRuns_126 : decode cX4_nextRuns 126 = .ok (.iload_n 2, 1) := by decide +kernel
theorem dX4_nextRuns_127 : decode cX4_nextRuns 127 = .ok (.lload 10, 2) := by decide +kernel
theorem dX4_nextRuns_129 : decode cX4_nextRuns 129 = .ok (.l2i, 1) := by decide +kernel
theorem dX4_nextRuns_130 : decode cX4_nextRuns 130 = .ok (.bipush 8, 2) := by decide +kernel
theorem dX4_nextRuns_132 : decode cX4_nextRuns 132 = .ok (.imul, 1) := by decide +kernel
theorem dX4_nextRuns_133 : decode cX4_nextRuns 133 = .ok (.iload_n 3, 1) := by decide +kernel
theorem dX4_nextRuns_134 : decode cX4_nextRuns 134 = .ok (.invokevirtual 66, 3) := by decide +kernel
theorem dX4_nextRuns_137 : decode cX4_nextRuns 137 = .ok (.iload 4, 2) := by decide +kernel
theorem dX4_nextRuns_139 : decode cX4_nextRuns 139 = .ok (.lload 10, 2) := by decide +kernel
theorem dX4_nextRuns_141 : decode cX4_nextRuns 141 = .ok (.l2i, 1) := by decide +kernel
theorem dX4_nextRuns_142 : decode cX4_nextRuns 142 = .ok (.bipush 8, 2) := by decide +kernel
theorem dX4_nextRuns_144 : decode cX4_nextRuns 144 = .ok (.imul, 1) := by decide +kernel
theorem dX4_nextRuns_145 : decode cX4_nextRuns 145 = .ok (.iadd, 1) := by decide +kernel
theorem dX4_nextRuns_146 : decode cX4_nextRuns 146 = .ok (.istore 4, 2) := by decide +kernel
theorem dX4_nextRuns_148 : decode cX4_nextRuns 148 = .ok (.goto 65, 3) := by decide +kernel
theorem dX4_nextRuns_151 : decode cX4_nextRuns 151 = .ok (.aload_n 0, 1) := by decide +kernel
theorem dX4_nextRuns_152 : decode cX4_nextRuns 152 = .ok (.getfield 19, 3) := by decide +kernel
theorem dX4_nextRuns_155 : decode cX4_nextRuns 155 = .ok (.istore 6, 2) := by decide +kernel
theorem dX4_nextRuns_157 : decode cX4_nextRuns 157 = .ok (.aload_n 0, 1) := by decide +kernel
theorem dX4_nextRuns_158 : decode cX4_nextRuns 158 = .ok (.iload_n 3, 1) := by decide +kernel
theorem dX4_nextRuns_159 : decode cX4_nextRuns 159 = .ok (.bipush 7, 2) := by decide +kernel
theorem dX4_nextRuns_161 : decode cX4_nextRuns 161 = .ok (.iadd, 1) := by decide +kernel
theorem dX4_nextRuns_162 : decode cX4_nextRuns 162 = .ok (.bipush 8, 2) := by decide +kernel
theorem dX4_nextRuns_164 : decode cX4_nextRuns 164 = .ok (.idiv, 1) := by decide +kernel
theorem dX4_nextRuns_165 : decode cX4_nextRuns 165 = .ok (.invokevirtual 70, 3) := by decide +kernel
theorem dX4_nextRuns_168 : decode cX4_nextRuns 168 = .ok (.lstore 14, 2) := by decide +kernel
theorem dX4_nextRuns_170 : decode cX4_nextRuns 170 = .ok (.aload_n 0, 1) := by decide +kernel
theorem dX4_nextRuns_171 : decode cX4_nextRuns 171 = .ok (.lload 14, 2) := by decide +kernel
theorem dX4_nextRuns_173 : decode cX4_nextRuns 173 = .ok (.invokestatic 74, 3) := by decide +kernel
theorem dX4_nextRuns_176 : decode cX4_nextRuns 176 = .ok (.iload_n 3, 1) := by decide +kernel
theorem dX4_nextRuns_177 : decode cX4_nextRuns 177 = .ok (.if_icmp .gt 7, 3) := by decide +kernel
theorem dX4_nextRuns_180 : decode cX4_nextRuns 180 = .ok (.iconst 1, 1) := by decide +kernel
theorem dX4_nextRuns_181 : decode cX4_nextRuns 181 = .ok (.goto 4, 3) := by decide +kernel
theorem dX4_nextRuns_184 : decode cX4_nextRuns 184 = .ok (.iconst 0, 1) := by decide +kernel
theorem dX4_nextRuns_185 : decode cX4_nextRuns 185 = .ok (.iconst 4, 1) := by decide +kernel
theorem dX4_nextRuns_186 : decode cX4_nextRuns 186 = .ok (.iload 6, 2) := by decide +kernel
theorem dX4_nextRuns_188 : decode cX4_nextRuns 188 = .ok (.invokevirtual 45, 3) := by decide +kernel
theorem dX4_nextRuns_191 : decode cX4_nextRuns 191 = .ok (.aload_n 1, 1) := by decide +kernel
theorem dX4_nextRuns_192 : decode cX4_nextRuns 192 = .ok (.iload 4, 2) := by decide +kernel
theorem dX4_nextRuns_194 : decode cX4_nextRuns 194 = .ok (.iload 4, 2) := by decide +kernel
theorem dX4_nextRuns_196 : decode cX4_nextRuns 196 = .ok (.lload 10, 2) := by decide +kernel
theorem dX4_nextRuns_198 : decode cX4_nextRuns 198 = .ok (.l2i, 1) := by decide +kernel
theorem dX4_nextRuns_199 : decode cX4_nextRuns 199 = .ok (.iadd, 1) := by decide +kernel
theorem dX4_nextRuns_200 : decode cX4_nextRuns 200 = .ok (.lload 14, 2) := by decide +kernel
theorem dX4_nextRuns_202 : decode cX4_nextRuns 202 = .ok (.invokestatic 78, 3) := by decide +kernel
theorem dX4_nextRuns_205 : decode cX4_nextRuns 205 = .ok (.iload 4, 2) := by decide +kernel
theorem dX4_nextRuns_207 : decode cX4_nextRuns 207 = .ok (.lload 10, 2) := by decide +kernel
theorem dX4_nextRuns_209 : decode cX4_nextRuns 209 = .ok (.l2i, 1) := by decide +kernel
theorem dX4_nextRuns_210 : decode cX4_nextRuns 210 = .ok (.iadd, 1) := by decide +kernel
theorem dX4_nextRuns_211 : decode cX4_nextRuns 211 = .ok (.istore 4, 2) := by decide +kernel
theorem dX4_nextRuns_213 : decode cX4_nextRuns 213 = .ok (.iinc 5 1, 3) := by decide +kernel
theorem dX4_nextRuns_216 : decode cX4_nextRuns 216 = .ok (.goto (-210), 3) := by decide +kernel
theorem dX4_nextRuns_219 : decode cX4_nextRuns 219 = .ok (.return_, 1) := by decide +kernel
theorem dX4_fill_0 : decode cX4_fill 0 = .ok (.iload_n 1, 1) := by decide +kernel
theorem dX4_fill_1 : decode cX4_fill 1 = .ok (.iconst 0, 1) := by decide +kernel
theorem dX4_fill_2 : decode cX4_fill 2 = .ok (.invokestatic 82, 3) := by decide +kernel
theorem dX4_fill_5 : decode cX4_fill 5 = .ok (.istore 5, 2) := by decide +kernel
theorem dX4_fill_7 : decode cX4_fill 7 = .ok (.iload 5, 2) := by decide +kernel
theorem dX4_fill_9 : decode cX4_fill 9 = .ok (.iload_n 2, 1) := by decide +kernel
theorem dX4_fill_10 : decode cX4_fill 10 = .ok (.if_icmp .ge 21, 3) := by decide +kernel
theorem dX4_fill_13 : decode cX4_fill 13 = .ok (.iload 5, 2) := by decide +kernel
theorem dX4_fill_15 : decode cX4_fill 15 = .ok (.aload_n 0, 1) := by decide +kernel
theorem dX4_fill_16 : decode cX4_fill 16 = .ok (.arraylength, 1) := by decide +kernel
theorem dX4_fill_17 : decode cX4_fill 17 = .ok (.if_icmp .ge 14, 3) := by decide +kernel
theorem dX4_fill_20 : decode cX4_fill 20 = .ok (.aload_n 0, 1) := by decide +kernel
theorem dX4_fill_21 : decode cX4_fill 21 = .ok (.iload 5, 2) := by decide +kernel
theorem dX4_fill_23 : decode cX4_fill 23 = .ok (.lload_n 3, 1) := by decide +kernel
theorem dX4_fill_24 : decode cX4_fill 24 = .ok (.lastore, 1) := by decide +kernel
theorem dX4_fill_25 : decode cX4_fill 25 = .ok (.iinc 5 1, 3) := by decide +kernel
theorem dX4_fill_28 : decode cX4_fill 28 = .ok (.goto (-21), 3) := by decide +kernel
theorem dX4_fill_31 : decode cX4_fill 31 = .ok (.return_, 1) := by decide +kernel
theorem dX4_nextDifferences_0 : decode cX4_nextDifferences 0 = .ok (.aload_n 0, 1) := by decide +kernel
theorem dX4_nextDifferences_1 : decode cX4_nextDifferences 1 = .ok (.getfield 19, 3) := by decide +kernel
theorem dX4_nextDifferences_4 : decode cX4_nextDifferences 4 = .ok (.istore 4, 2) := by decide +kernel
theorem dX4_nextDifferences_6 : decode cX4_nextDifferences 6 = .ok (.aload_n 0, 1) := by decide +kernel
theorem dX4_nextDifferences_7 : decode cX4_nextDifferences 7 = .ok (.aload_n 0, 1) := by decide +kernel
theorem dX4_nextDifferences_8 : decode cX4_nextDifferences 8 = .ok (.invokevirtual 58, 3) := by decide +kernel
theorem dX4_nextDifferences_11 : decode cX4_nextDifferences 11 = .ok (.ldc2_w 88, 3) := by decide +kernel
theorem dX4_nextDifferences_14 : decode cX4_nextDifferences 14 = .ok (.lcmp, 1) := by decide +kernel
theorem dX4_nextDifferences_15 : decode cX4_nextDifferences 15 = .ok (.ifCond .ne 7, 3) := by decide +kernel
theorem dX4_nextDifferences_18 : decode cX4_nextDifferences 18 = .ok (.iconst 1, 1) := by decide +kernel
theorem dX4_nextDifferences_19 : decode cX4_nextDifferences 19 = .ok (.goto 4, 3) := by decide +kernel
theorem dX4_nextDifferences_22 : decode cX4_nextDifferences 22 = .ok (.iconst 0, 1) := by decide +kernel
theorem dX4_nextDifferences_23 : decode cX4_nextDifferences 23 = .ok (.iconst 5, 1) := by decide +kernel
theorem dX4_nextDifferences_24 : decode cX4_nextDifferences 24 = .ok (.iload 4, 2) := by decide +kernel
theorem dX4_nextDifferences_26 : decode cX4_nextDifferences 26 = .ok (.invokevirtual 45, 3) := by decide +kernel
theorem dX4_nextDifferences_29 : decode cX4_nextDifferences 29 = .ok (.aload_n 0, 1) := by decide +kernel
theorem dX4_nextDifferences_30 : decode cX4_nextDifferences 30 = .ok (.aload_n 0, 1) := by decide +kernel
theorem dX4_nextDifferences_31 : decode cX4_nextDifferences 31 = .ok (.invokevirtual 58, 3) := by decide +kernel
theorem dX4_nextDifferences_34 : decode cX4_nextDifferences 34 = .ok (.ldc2_w 90, 3) := by decide +kernel
theorem dX4_nextDifferences_37 : decode cX4_nextDifferences 37 = .ok (.lcmp, 1) := by decide +kernel
theorem dX4_nextDifferences_38 : decode cX4_nextDifferences 38 = .ok (.ifCond .ne 7, 3) := by decide +kernel
theorem dX4_nextDifferences_41 : decode cX4_nextDifferences 41 = .ok (.iconst 1, 1) := by decide +kernel
theorem dX4_nextDifferences_42 : decode cX4_nextDifferences 42 = .ok (.goto 4, 3) := by decide +kernel
theorem dX4_nextDifferences_45 : decode cX4_nextDifferences 45 = .ok (.iconst 0, 1) := by decide +kernel
theorem dX4_nextDifferences_46 : decode cX4_nextDifferences 46 = .ok (.iconst 5, 1) := by decide +kernel
theorem dX4_nextDifferences_47 : decode cX4_nextDifferences 47 = .ok (.iload 4, 2) := by decide +kernel
theorem dX4_nextDifferences_49 : decode cX4_nextDifferences 49 = .ok (.invokevirtual 45, 3) := by decide +kernel
theorem dX4_nextDifferences_52 : decode cX4_nextDifferences 52 = .ok (.aload_n 0, 1) := by decide +kernel
theorem dX4_nextDifferences_53 : decode cX4_nextDifferences 53 = .ok (.aload_n 0, 1) := by decide +kernel
theorem dX4_nextDifferences_54 : decode cX4_nextDifferences 54 = .ok (.invokevirtual 58, 3) := by decide +kernel
theorem dX4_nextDifferences_57 : decode cX4_nextDifferences 57 = .ok (.iload_n 2, 1) := by decide +kernel
theorem dX4_nextDifferences_58 : decode cX4_nextDifferences 58 = .ok (.i2l, 1) := by decide +kernel
theorem dX4_nextDifferences_59 : decode cX4_nextDifferences 59 = .ok (.lcmp, 1) := by decide +kernel
theorem dX4_nextDifferences_60 : decode cX4_nextDifferences 60 = .ok (.ifCond .ne 7, 3) := by decide +kernel
theorem dX4_nextDifferences_63 : decode cX4_nextDifferences 63 = .ok (.iconst 1, 1) := by decide +kernel
theorem dX4_nextDifferences_64 : decode cX4_nextDifferences 64 = .ok (.goto 4, 3) := by decide +kernel
theorem dX4_nextDifferences_67 : decode cX4_nextDifferences 67 = .ok (.iconst 0, 1) := by decide +kernel
theorem dX4_nextDifferences_68 : decode cX4_nextDifferences 68 = .ok (.iconst 5, 1) := by decide +kernel
theorem dX4_nextDifferences_69 : decode cX4_nextDifferences 69 = .ok (.iload 4, 2) := by decide +kernel
theorem dX4_nextDifferences_71 : decode cX4_nextDifferences 71 = .ok (.invokevirtual 45, 3) := by decide +kernel
theorem dX4_nextDifferences_74 : decode cX4_nextDifferences 74 = .ok (.aload_n 0, 1) := by decide +kernel
theorem dX4_nextDifferences_75 : decode cX4_nextDifferences 75 = .ok (.invokevirtual 58, 3) := by decide +kernel
theorem dX4_nextDifferences_78 : decode cX4_nextDifferences 78 = .ok (.invokestatic 92, 3) := by decide +kernel
theorem dX4_nextDifferences_81 : decode cX4_nextDifferences 81 = .ok (.lstore 5, 2) := by decide +kernel
theorem dX4_nextDifferences_83 : decode cX4_nextDifferences 83 = .ok (.iload_n 2, 1) := by decide +kernel
theorem dX4_nextDifferences_84 : decode cX4_nextDifferences 84 = .ok (.ifCond .le 24, 3) := by decide +kernel
theorem dX4_nextDifferences_87 : decode cX4_nextDifferences 87 = .ok (.aload_n 1, 1) := by decide +kernel
theorem dX4_nextDifferences_88 : decode cX4_nextDifferences 88 = .ok (.arraylength, 1) := by decide +kernel
theorem dX4_nextDifferences_89 : decode cX4_nextDifferences 89 = .ok (.ifCond .le 19, 3) := by decide +kernel
theorem dX4_nextDifferences_92 : decode cX4_nextDifferences 92 = .ok (.aload_n 1, 1) := by decide +kernel
theorem dX4_nextDifferences_93 : decode cX4_nextDifferences 93 = .ok (.iconst 0, 1) := by decide +kernel
theorem dX4_nextDifferences_94 : decode cX4_nextDifferences 94 = .ok (.iload_n 3, 1) := by decide +kernel
theorem dX4_nextDifferences_95 : decode cX4_nextDifferences 95 = .ok (.ifCond .eq 10, 3) := by decide +kernel
theorem dX4_nextDifferences_98 : decode cX4_nextDifferences 98 = .ok (.lload 5, 2) := by decide +kernel
theorem dX4_nextDifferences_100 : decode cX4_nextDifferences 100 = .ok (.l2i, 1) := by decide +kernel
theorem dX4_nextDifferences_101 : decode cX4_nextDifferences 101 = .ok (.i2l, 1) := by decide +kernel
theorem dX4_nextDifferences_102 : decode cX4_nextDifferences 102 = .ok (.goto 5, 3) := by decide +kernel
theorem dX4_nextDifferences_105 : decode cX4_nextDifferences 105 = .ok (.lload 5, 2) := by decide +kernel
theorem dX4_nextDifferences_107 : decode cX4_nextDifferences 107 = .ok (.lastore, 1) := by decide +kernel
theorem dX4_nextDifferences_108 : decode cX4_nextDifferences 108 = .ok (.iconst 1, 1) := by decide +kernel
theorem dX4_nextDifferences_109 : decode cX4_nextDifferences 109 = .ok (.istore 7, 2) := by decide +kernel
theorem dX4_nextDifferences_111 : decode cX4_nextDifferences 111 = .ok (.iload 7, 2) := by decide +kernel
theorem dX4_nextDifferences_113 : decode cX4_nextDifferences 113 = .ok (.iload_n 2, 1) := by decide +kernel
theorem dX4_nextDifferences_114 : decode cX4_nextDifferences 114 = .ok (.if_icmp .ge 169, 3) := by decide +kernel
theorem dX4_nextDifferences_117 : decode cX4_nextDifferences 117 = .ok (.aload_n 0, 1) := by decide +kernel
theorem dX4_nextDifferences_118 : decode cX4_nextDifferences 118 = .ok (.getfield 31, 3) := by decide +kernel
theorem dX4_nextDifferences_121 : decode cX4_nextDifferences 121 = .ok (.ifCond .ne 162, 3) := by decide +kernel
theorem dX4_nextDifferences_124 : decode cX4_nextDifferences 124 = .ok (.iload 7, 2) := by decide +kernel
theorem dX4_nextDifferences_126 : decode cX4_nextDifferences 126 = .ok (.sipush 128, 3) := by decide +kernel
theorem dX4_nextDifferences_129 : decode cX4_nextDifferences 129 = .ok (.iadd, 1) := by decide +kernel
theorem dX4_nextDifferences_130 : decode cX4_nextDifferences 130 = .ok (.iload_n 2, 1) := by decide +kernel
theorem dX4_nextDifferences_131 : decode cX4_nextDifferences 131 = .ok (.invokestatic 96, 3) := by decide +kernel
theorem dX4_nextDifferences_134 : decode cX4_nextDifferences 134 = .ok (.istore 8, 2) := by decide +kernel
theorem dX4_nextDifferences_136 : decode cX4_nextDifferences 136 = .ok (.aload_n 0, 1) := by decide +kernel
theorem dX4_nextDifferences_137 : decode cX4_nextDifferences 137 = .ok (.invokevirtual 58, 3) := by decide +kernel
theorem dX4_nextDifferences_140 : decode cX4_nextDifferences 140 = .ok (.invokestatic 92, 3) := by decide +kernel
theorem dX4_nextDifferences_143 : decode cX4_nextDifferences 143 = .ok (.lstore 9, 2) := by decide +kernel
theorem dX4_nextDifferences_145 : decode cX4_nextDifferences 145 = .ok (.aload_n 0, 1) := by decide +kernel
theorem dX4_nextDifferences_146 : decode cX4_nextDifferences 146 = .ok (.iload 8, 2) := by decide +kernel
theorem dX4_nextDifferences_148 : decode cX4_nextDifferences 148 = .ok (.iload 7, 2) := by decide +kernel
theorem dX4_nextDifferences_150 : decode cX4_nextDifferences 150 = .ok (.isub, 1) := by decide +kernel
theorem dX4_nextDifferences_151 : decode cX4_nextDifferences 151 = .ok (.iload_n 3, 1) := by decide +kernel
theorem dX4_nextDifferences_152 : decode cX4_nextDifferences 152 = .ok (.ifCond .eq 8, 3) := by decide +kernel
theorem dX4_nextDifferences_155 : decode cX4_nextDifferences 155 = .ok (.bipush 32, 2) := by decide +kernel
theorem dX4_nextDifferences_157 : decode cX4_nextDifferences 157 = .ok (.goto 5, 3) := by decide +kernel
theorem dX4_nextDifferences_160 : decode cX4_nextDifferences 160 = .ok (.bipush 64, 2) := by decide +kernel
theorem dX4_nextDifferences_162 : decode cX4_nextDifferences 162 = .ok (.invokevirtual 99, 3) := by decide +kernel
theorem dX4_nextDifferences_165 : decode cX4_nextDifferences 165 = .ok (.iconst 0, 1) := by decide +kernel
theorem dX4_nextDifferences_166 : decode cX4_nextDifferences 166 = .ok (.istore 11, 2) := by decide +kernel
theorem dX4_nextDifferences_168 : decode cX4_nextDifferences 168 = .ok (.iload 11, 2) := by decide +kernel
theorem dX4_nextDifferences_170 : decode cX4_nextDifferences 170 = .ok (.iconst 4, 1) := by decide +kernel
theorem dX4_nextDifferences_171 : decode cX4_nextDifferences 171 = .ok (.if_icmp .ge 46, 3) := by decide +kernel
theorem dX4_nextDifferences_174 : decode cX4_nextDifferences 174 = .ok (.iload 7, 2) := by decide +kernel
theorem dX4_nextDifferences_176 : decode cX4_nextDifferences 176 = .ok (.iload 11, 2) := by decide +kernel
theorem dX4_nextDifferences_178 : decode cX4_nextDifferences 178 = .ok (.bipush 32, 2) := by decide +kernel
theorem dX4_nextDifferences_180 : decode cX4_nextDifferences 180 = .ok (.imul, 1) := by decide +kernel
theorem dX4_nextDifferences_181 : decode cX4_nextDifferences 181 = .ok (.iadd, 1) := by decide +kernel
theorem dX4_nextDifferences_182 : decode cX4_nextDifferences 182 = .ok (.iload 8, 2) := by decide +kernel
theorem dX4_nextDifferences_184 : decode cX4_nextDifferences 184 = .ok (.if_icmp .ge 33, 3) := by decide +kernel
theorem dX4_nextDifferences_187 : decode cX4_nextDifferences 187 = .ok (.aload_n 0, 1) := by decide +kernel
theorem dX4_nextDifferences_188 : decode cX4_nextDifferences 188 = .ok (.aload_n 1, 1) := by decide +kernel
theorem dX4_nextDifferences_189 : decode cX4_nextDifferences 189 = .ok (.iload 7, 2) := by decide +kernel
theorem dX4_nextDifferences_191 : decode cX4_nextDifferences 191 = .ok (.iload 11, 2) := by decide +kernel
theorem dX4_nextDifferences_193 : decode cX4_nextDifferences 193 = .ok (.bipush 32, 2) := by decide +kernel
theorem dX4_nextDifferences_195 : decode cX4_nextDifferences 195 = .ok (.imul, 1) := by decide +kernel
theorem dX4_nextDifferences_196 : decode cX4_nextDifferences 196 = .ok (.iadd, 1) := by decide +kernel
theorem dX4_nextDifferences_197 : decode cX4_nextDifferences 197 = .ok (.iload 8, 2) := by decide +kernel
theorem dX4_nextDifferences_199 : decode cX4_nextDifferences 199 = .ok (.bipush 32, 2) := by decide +kernel
theorem dX4_nextDifferences_201 : decode cX4_nextDifferences 201 = .ok (.aload_n 0, 1) := by decide +kernel
theorem dX4_nextDifferences_202 : decode cX4_nextDifferences 202 = .ok (.getfield 9, 3) := by decide +kernel
theorem dX4_nextDifferences_205 : decode cX4_nextDifferences 205 = .ok (.iload 11, 2) := by decide +kernel
theorem dX4_nextDifferences_207 : decode cX4_nextDifferences 207 = .ok (.iaload, 1) := by decide +kernel
theorem dX4_nextDifferences_208 : decode cX4_nextDifferences 208 = .ok (.invokevirtual 66, 3) := by decide +kernel
theorem dX4_nextDifferences_211 : decode cX4_nextDifferences 211 = .ok (.iinc 11 1, 3) := by decide +kernel
theorem dX4_nextDifferences_214 : decode cX4_nextDifferences 214 = .ok (.goto (-46), 3) := by decide +kernel
theorem dX4_nextDifferences_217 : decode cX4_nextDifferences 217 = .ok (.iload 7, 2) := by decide +kernel
theorem dX4_nextDifferences_219 : decode cX4_nextDifferences 219 = .ok (.istore 11, 2) := by decide +kernel
theorem dX4_nextDifferences_221 : decode cX4_nextDifferences 221 = .ok (.iload 11, 2) := by decide +kernel
theorem dX4_nextDifferences_223 : decode cX4_nextDifferences 223 = .ok (.iload 8, 2) := by decide +kernel
theorem dX4_nextDifferences_225 : decode cX4_nextDifferences 225 = .ok (.if_icmp .ge 49, 3) := by decide +kernel
theorem dX4_nextDifferences_228 : decode cX4_nextDifferences 228 = .ok (.iload 11, 2) := by decide +kernel
theorem dX4_nextDifferences_230 : decode cX4_nextDifferences 230 = .ok (.aload_n 1, 1) := by decide +kernel
theorem dX4_nextDifferences_231 : decode cX4_nextDifferences 231 = .ok (.arraylength, 1) := by decide +kernel
theorem dX4_nextDifferences_232 : decode cX4_nextDifferences 232 = .ok (.if_icmp .ge 42, 3) := by decide +kernel
theorem dX4_nextDifferences_235 : decode cX4_nextDifferences 235 = .ok (.aload_n 1, 1) := by decide +kernel
theorem dX4_nextDifferences_236 : decode cX4_nextDifferences 236 = .ok (.iload 11, 2) := by decide +kernel
theorem dX4_nextDifferences_238 : decode cX4_nextDifferences 238 = .ok (.iconst 1, 1) := by decide +kernel
theorem dX4_nextDifferences_239 : decode cX4_nextDifferences 239 = .ok (.isub, 1) := by decide +kernel
theorem dX4_nextDifferences_240 : decode cX4_nextDifferences 240 = .ok (.laload, 1) := by decide +kernel
theorem dX4_nextDifferences_241 : decode cX4_nextDifferences 241 = .ok (.lload 9, 2) := by decide +kernel
theorem dX4_nextDifferences_243 : decode cX4_nextDifferences 243 = .ok (.ladd, 1) := by decide +kernel
theorem dX4_nextDifferences_244 : decode cX4_nextDifferences 244 = .ok (.aload_n 1, 1) := by decide +kernel
theorem dX4_nextDifferences_245 : decode cX4_nextDifferences 245 = .ok (.iload 11, 2) := by decide +kernel
theorem dX4_nextDifferences_247 : decode cX4_nextDifferences 247 = .ok (.laload, 1) := by decide +kernel
theorem dX4_nextDifferences_248 : decode cX4_nextDifferences 248 = .ok (.ladd, 1) := by decide +kernel
theorem dX4_nextDifferences_249 : decode cX4_nextDifferences 249 = .ok (.lstore 12, 2) := by decide +kernel
theorem dX4_nextDifferences_251 : decode cX4_nextDifferences 251 = .ok (.aload_n 1, 1) := by decide +kernel
theorem dX4_nextDifferences_252 : decode cX4_nextDifferences 252 = .ok (.iload 11, 2) := by decide +kernel
theorem dX4_nextDifferences_254 : decode cX4_nextDifferences 254 = .ok (.iload_n 3, 1) := by decide +kernel
theorem dX4_nextDifferences_255 : decode cX4_nextDifferences 255 = .ok (.ifCond .eq 10, 3) := by decide +kernel
theorem dX4_nextDifferences_258 : decode cX4_nextDifferences 258 = .ok (.lload 12, 2) := by decide +kernel
theorem dX4_nextDifferences_260 : decode cX4_nextDifferences 260 = .ok (.l2i, 1) := by decide +kernel
theorem dX4_nextDifferences_261 : decode cX4_nextDifferences 261 = .ok (.i2l, 1) := by decide +kernel
theorem dX4_nextDifferences_262 : decode cX4_nextDifferences 262 = .ok (.goto 5, 3) := by decide +kernel
theorem dX4_nextDifferences_265 : decode cX4_nextDifferences 265 = .ok (.lload 12, 2) := by decide +kernel
theorem dX4_nextDifferences_267 : decode cX4_nextDifferences 267 = .ok (.lastore, 1) := by decide +kernel
theorem dX4_nextDifferences_268 : decode cX4_nextDifferences 268 = .ok (.iinc 11 1, 3) := by decide +kernel
theorem dX4_nextDifferences_271 : decode cX4_nextDifferences 271 = .ok (.goto (-50), 3) := by decide +kernel
theorem dX4_nextDifferences_274 : decode cX4_nextDifferences 274 = .ok (.iinc 7 128, 6) := by decide +kernel
theorem dX4_nextDifferences_280 : decode cX4_nextDifferences 280 = .ok (.goto (-169), 3) := by decide +kernel
theorem dX4_nextDifferences_283 : decode cX4_nextDifferences 283 = .ok (.return_, 1) := by decide +kernel
theorem dX4_nextWidths_0 : decode cX4_nextWidths 0 = .ok (.iconst 0, 1) := by decide +kernel
theorem dX4_nextWidths_1 : decode cX4_nextWidths 1 = .ok (.istore_n 3, 1) := by decide +kernel
theorem dX4_nextWidths_2 : decode cX4_nextWidths 2 = .ok (.iload_n 3, 1) := by decide +kernel
theorem dX4_nextWidths_3 : decode cX4_nextWidths 3 = .ok (.iconst 4, 1) := by decide +kernel
theorem dX4_nextWidths_4 : decode cX4_nextWidths 4 = .ok (.if_icmp .ge 71, 3) := by decide +kernel
theorem dX4_nextWidths_7 : decode cX4_nextWidths 7 = .ok (.aload_n 0, 1) := by decide +kernel
theorem dX4_nextWidths_8 : decode cX4_nextWidths 8 = .ok (.getfield 19, 3) := by decide +kernel
theorem dX4_nextWidths_11 : decode cX4_nextWidths 11 = .ok (.istore 4, 2) := by decide +kernel
theorem dX4_nextWidths_13 : decode cX4_nextWidths 13 = .ok (.aload_n 0, 1) := by decide +kernel
theorem dX4_nextWidths_14 : decode cX4_nextWidths 14 = .ok (.invokevirtual 41, 3) := by decide +kernel
theorem dX4_nextWidths_17 : decode cX4_nextWidths 17 = .ok (.istore 5, 2) := by decide +kernel
theorem dX4_nextWidths_19 : decode cX4_nextWidths 19 = .ok (.aload_n 0, 1) := by decide +kernel
theorem dX4_nextWidths_20 : decode cX4_nextWidths 20 = .ok (.iload 5, 2) := by decide +kernel
theorem dX4_nextWidths_22 : decode cX4_nextWidths 22 = .ok (.iload_n 1, 1) := by decide +kernel
theorem dX4_nextWidths_23 : decode cX4_nextWidths 23 = .ok (.iload_n 3, 1) := by decide +kernel
theorem dX4_nextWidths_24 : decode cX4_nextWidths 24 = .ok (.bipush 32, 2) := by decide +kernel
theorem dX4_nextWidths_26 : decode cX4_nextWidths 26 = .ok (.imul, 1) := by decide +kernel
theorem dX4_nextWidths_27 : decode cX4_nextWidths 27 = .ok (.if_icmp .le 7, 3) := by decide +kernel
theorem dX4_nextWidths_30 : decode cX4_nextWidths 30 = .ok (.iload_n 2, 1) := by decide +kernel
theorem dX4_nextWidths_31 : decode cX4_nextWidths 31 = .ok (.goto 4, 3) := by decide +kernel
theorem dX4_nextWidths_34 : decode cX4_nextWidths 34 = .ok (.iconst 0, 1) := by decide +kernel
theorem dX4_nextWidths_35 : decode cX4_nextWidths 35 = .ok (.if_icmp .gt 7, 3) := by decide +kernel
theorem dX4_nextWidths_38 : decode cX4_nextWidths 38 = .ok (.iconst 1, 1) := by decide +kernel
theorem dX4_nextWidths_39 : decode cX4_nextWidths 39 = .ok (.goto 4, 3) := by decide +kernel
theorem dX4_nextWidths_42 : decode cX4_nextWidths 42 = .ok (.iconst 0, 1) := by decide +kernel
theorem dX4_nextWidths_43 : decode cX4_nextWidths 43 = .ok (.bipush 6, 2) := by decide +kernel
theorem dX4_nextWidths_45 : decode cX4_nextWidths 45 = .ok (.iload 4, 2) := by decide +kernel
theorem dX4_nextWidths_47 : decode cX4_nextWidths 47 = .ok (.invokevirtual 45, 3) := by decide +kernel
theorem dX4_nextWidths_50 : decode cX4_nextWidths 50 = .ok (.aload_n 0, 1) := by decide +kernel
theorem dX4_nextWidths_51 : decode cX4_nextWidths 51 = .ok (.getfield 9, 3) := by decide +kernel
theorem dX4_nextWidths_54 : decode cX4_nextWidths 54 = .ok (.iload_n 3, 1) := by decide +kernel
theorem dX4_nextWidths_55 : decode cX4_nextWidths 55 = .ok (.aload_n 0, 1) := by decide +kernel
theorem dX4_nextWidths_56 : decode cX4_nextWidths 56 = .ok (.getfield 31, 3) := by decide +kernel
theorem dX4_nextWidths_59 : decode cX4_nextWidths 59 = .ok (.ifCond .ne 8, 3) := by decide +kernel
theorem dX4_nextWidths_62 : decode cX4_nextWidths 62 = .ok (.iload 5, 2) := by decide +kernel
theorem dX4_nextWidths_64 : decode cX4_nextWidths 64 = .ok (.goto 4, 3) := by decide +kernel
theorem dX4_nextWidths_67 : decode cX4_nextWidths 67 = .ok (.iconst 0, 1) := by decide +kernel
theorem dX4_nextWidths_68 : decode cX4_nextWidths 68 = .ok (.iastore, 1) := by decide +kernel
theorem dX4_nextWidths_69 : decode cX4_nextWidths 69 = .ok (.iinc 3 1, 3) := by decide +kernel
theorem dX4_nextWidths_72 : decode cX4_nextWidths 72 = .ok (.goto (-70), 3) := by decide +kernel
theorem dX4_nextWidths_75 : decode cX4_nextWidths 75 = .ok (.return_, 1) := by decide +kernel
