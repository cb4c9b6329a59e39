theorem dX3_init_0 : decode cX3_init 0 = .ok (.aload_n 0, 1) := by decide +kernel
theorem dX3_init_1 : decode cX3_init 1 = .ok (.invokespecial 3, 3) := by decide +kernel
theorem dX3_init_4 : decode cX3_init 4 = .ok (.aload_n 0, 1) := by decide +kernel
theorem dX3_init_5 : decode cX3_init 5 = .ok (.iload_n 1, 1) := by decide +kernel
theorem dX3_init_6 : decode cX3_init 6 = .ok (.ifCond .ge 7, 3) := by decide +kernel
theorem dX3_init_9 : decode cX3_init 9 = .ok (.iconst 0, 1) := by decide +kernel
theorem dX3_init_10 : decode cX3_init 10 = .ok (.goto 4, 3) := by decide +kernel
theorem dX3_init_13 : decode cX3_init 13 = .ok (.iload_n 1, 1) := by decide +kernel
theorem dX3_init_14 : decode cX3_init 14 = .ok (.newarray .byte, 2) := by decide +kernel
theorem dX3_init_16 : decode cX3_init 16 = .ok (.putfield 9, 3) := by decide +kernel
theorem dX3_init_19 : decode cX3_init 19 = .ok (.return_, 1) := by decide +kernel
theorem dX3_clear_0 : decode cX3_clear 0 = .ok (.aload_n 0, 1) := by decide +kernel
theorem dX3_clear_1 : decode cX3_clear 1 = .ok (.iconst 0, 1) := by decide +kernel
theorem dX3_clear_2 : decode cX3_clear 2 = .ok (.putfield 15, 3) := by decide +kernel
theorem dX3_clear_5 : decode cX3_clear 5 = .ok (.aload_n 0, 1) := by decide +kernel
theorem dX3_clear_6 : decode cX3_clear 6 = .ok (.iconst 0, 1) := by decide +kernel
theorem dX3_clear_7 : decode cX3_clear 7 = .ok (.putfield 19, 3) := by decide +kernel
theorem dX3_clear_10 : decode cX3_clear 10 = .ok (.return_, 1) := by decide +kernel
theorem dX3_shorten_0 : decode cX3_shorten 0 = .ok (.aload_n 0, 1) := by decide +kernel
theorem dX3_shorten_1 : decode cX3_shorten 1 = .ok (.iconst 0, 1) := by decide +kernel
theorem dX3_shorten_2 : decode cX3_shorten 2 = .ok (.iload_n 1, 1) := by decide +kernel
theorem dX3_shorten_3 : decode cX3_shorten 3 = .ok (.aload_n 0, 1) := by decide +kernel
theorem dX3_shorten_4 : decode cX3_shorten 4 = .ok (.getfield 15, 3) := by decide +kernel
theorem dX3_shorten_7 : decode cX3_shorten 7 = .ok (.invokestatic 23, 3) := by decide +kernel
theorem dX3_shorten_10 : decode cX3_shorten 10 = .ok (.invokestatic 29, 3) := by decide +kernel
theorem dX3_shorten_13 : decode cX3_shorten 13 = .ok (.putfield 15, 3) := by decide +kernel
theorem dX3_shorten_16 : decode cX3_shorten 16 = .ok (.return_, 1) := by decide +kernel
theorem dX3_get_0 : decode cX3_get 0 = .ok (.iload_n 1, 1) := by decide +kernel
theorem dX3_get_1 : decode cX3_get 1 = .ok (.ifCond .lt 33, 3) := by decide +kernel
theorem dX3_get_4 : decode cX3_get 4 = .ok (.iload_n 1, 1) := by decide +kernel
theorem dX3_get_5 : decode cX3_get 5 = .ok (.aload_n 0, 1) := by decide +kernel
theorem dX3_get_6 : decode cX3_get 6 = .ok (.getfield 15, 3) := by decide +kernel
theorem dX3_get_9 : decode cX3_get 9 = .ok (.if_icmp .ge 25, 3) := by decide +kernel
theorem dX3_get_12 : decode cX3_get 12 = .ok (.iload_n 1, 1) := by decide +kernel
theorem dX3_get_13 : decode cX3_get 13 = .ok (.aload_n 0, 1) := by decide +kernel
theorem dX3_get_14 : decode cX3_get 14 = .ok (.getfield 9, 3) := by decide +kernel
theorem dX3_get_17 : decode cX3_get 17 = .ok (.arraylength, 1) := by decide +kernel
theorem dX3_get_18 : decode cX3_get 18 = .ok (.if_icmp .ge 16, 3) := by decide +kernel
theorem dX3_get_21 : decode cX3_get 21 = .ok (.aload_n 0, 1) := by decide +kernel
theorem dX3_get_22 : decode cX3_get 22 = .ok (.getfield 9, 3) := by decide +kernel
theorem dX3_get_25 : decode cX3_get 25 = .ok (.iload_n 1, 1) := by decide +kernel
theorem dX3_get_26 : decode cX3_get 26 = .ok (.baload, 1) := by decide +kernel
theorem dX3_get_27 : decode cX3_get 27 = .ok (.sipush 255, 3) := by decide +kernel
theorem dX3_get_30 : decode cX3_get 30 = .ok (.iand, 1) := by decide +kernel
theorem dX3_get_31 : decode cX3_get 31 = .ok (.goto 4, 3) := by decide +kernel
theorem dX3_get_34 : decode cX3_get 34 = .ok (.iconst 0, 1) := by decide +kernel
theorem dX3_get_35 : decode cX3_get 35 = .ok (.ireturn, 1) := by decide +kernel
theorem dX3_set_0 : decode cX3_set 0 = .ok (.iload_n 1, 1) := by decide +kernel
theorem dX3_set_1 : decode cX3_set 1 = .ok (.ifCond .lt 28, 3) := by decide +kernel
theorem dX3_set_4 : decode cX3_set 4 = .ok (.iload_n 1, 1) := by decide +kernel
theorem dX3_set_5 : decode cX3_set 5 = .ok (.aload_n 0, 1) := by decide +kernel
theorem dX3_set_6 : decode cX3_set 6 = .ok (.getfield 15, 3) := by decide +kernel
theorem dX3_set_9 : decode cX3_set 9 = .ok (.if_icmp .ge 20, 3) := by decide +kernel
theorem dX3_set_12 : decode cX3_set 12 = .ok (.iload_n 1, 1) := by decide +kernel
theorem dX3_set_13 : decode cX3_set 13 = .ok (.aload_n 0, 1) := by decide +kernel
theorem dX3_set_14 : decode cX3_set 14 = .ok (.getfield 9, 3) := by decide +kernel
theorem dX3_set_17 : decode cX3_set 17 = .ok (.arraylength, 1) := by decide +kernel
theorem dX3_set_18 : decode cX3_set 18 = .ok (.if_icmp .ge 11, 3) := by decide +kernel
theorem dX3_set_21 : decode cX3_set 21 = .ok (.aload_n 0, 1) := by decide +kernel
theorem dX3_set_22 : decode cX3_set 22 = .ok (.getfield 9, 3) := by decide +kernel
theorem dX3_set_25 : decode cX3_set 25 = .ok (.iload_n 1, 1) := by decide +kernel
theorem dX3_set_26 : decode cX3_set 26 = .ok (.iload_n 2, 1) := by decide +kernel
theorem dX3_set_27 : decode cX3_set 27 = .ok (.i2b, 1) := by decide +kernel
theorem dX3_set_28 : decode cX3_set 28 = .ok (.bastore, 1) := by decide +kernel
theorem dX3_set_29 : decode cX3_set 29 = .ok (.return_, 1) := by decide +kernel
theorem dX3_push_0 : decode cX3_push 0 = .ok (.aload_n 0, 1) := by decide +kernel
theorem dX3_push_1 : decode cX3_push 1 = .ok (.getfield 15, 3) := by decide +kernel
theorem dX3_push_4 : decode cX3_push 4 = .ok (.ifCond .lt 15, 3) := by decide +kernel
theorem dX3_push_7 : decode cX3_push 7 = .ok (.aload_n 0, 1) := by decide +kernel
theorem dX3_push_8 : decode cX3_push 8 = .ok (.getfield 15, 3) := by decide +kernel
theorem dX3_push_11 : decode cX3_push 11 = .ok (.aload_n 0, 1) := by decide +kernel
theorem dX3_push_12 : decode cX3_push 12 = .ok (.getfield 9, 3) := by decide +kernel
theorem dX3_push_15 : decode cX3_push 15 = .ok (.arraylength, 1) := by decide +kernel
theorem dX3_push_16 : decode cX3_push 16 = .ok (.if_icmp .lt 9, 3) := by decide +kernel
theorem dX3_push_19 : decode cX3_push 19 = .ok (.aload_n 0, 1) := by decide +kernel
theorem dX3_push_20 : decode cX3_push 20 = .ok (.iconst 1, 1) := by decide +kernel
theorem dX3_push_21 : decode cX3_push 21 = .ok (.putfield 19, 3) := by decide +kernel
theorem dX3_push_24 : decode cX3_push 24 = .ok (.return_, 1) := by decide +kernel
theorem dX3_push_25 : decode cX3_push 25 = .ok (.aload_n 0, 1) := by decide +kernel
theorem dX3_push_26 : decode cX3_push 26 = .ok (.getfield 9, 3) := by decide +kernel
theorem dX3_push_29 : decode cX3_push 29 = .ok (.aload_n 0, 1) := by decide +kernel
theorem dX3_push_30 : decode cX3_push 30 = .ok (.getfield 15, 3) := by decide +kernel
theorem dX3_push_33 : decode cX3_push 33 = .ok (.iload_n 1, 1) := by decide +kernel
theorem dX3_push_34 : decode cX3_push 34 = .ok (.i2b, 1) := by decide +kernel
theorem dX3_push_35 : decode cX3_push 35 = .ok (.bastore, 1) := by decide +kernel
theorem dX3_push_36 : decode cX3_push 36 = .ok (.aload_n 0, 1) := by decide +kernel
theorem dX3_push_37 : decode cX3_push 37 = .ok (.dup, 1) := by decide +kernel
theorem dX3_push_38 : decode cX3_push 38 = .ok (.getfield 15, 3) := by decide +kernel
theorem dX3_push_41 : decode cX3_push 41 = .ok (.iconst 1, 1) := by decide +kernel
theorem dX3_push_42 : decode cX3_push 42 = .ok (.iadd, 1) := by decide +kernel
theorem dX3_push_43 : decode cX3_push 43 = .ok (.putfield 15, 3) := by decide +kernel
theorem dX3_push_46 : decode cX3_push 46 = .ok (.return_, 1) := by decide +kernel
theorem dX3_append_0 : decode cX3_append 0 = .ok (.aload_n 0, 1) := by decide +kernel
theorem dX3_append_1 : decode cX3_append 1 = .ok (.aload_n 0, 1) := by decide +kernel
theorem dX3_append_2 : decode cX3_append 2 = .ok (.getfield 19, 3) := by decide +kernel
theorem dX3_append_5 : decode cX3_append 5 = .ok (.ifCond .ne 10, 3) := by decide +kernel
theorem dX3_append_8 : decode cX3_append 8 = .ok (.aload_n 1, 1) := by decide +kernel
theorem dX3_append_9 : decode cX3_append 9 = .ok (.getfield 19, 3) := by decide +kernel
theorem dX3_append_12 : decode cX3_append 12 = .ok (.ifCond .eq 7, 3) := by decide +kernel
theorem dX3_append_15 : decode cX3_append 15 = .ok (.iconst 1, 1) := by decide +kernel
theorem dX3_append_16 : decode cX3_append 16 = .ok (.goto 4, 3) := by decide +kernel
theorem dX3_append_19 : decode cX3_append 19 = .ok (.iconst 0, 1) := by decide +kernel
theorem dX3_append_20 : decode cX3_append 20 = .ok (.putfield 19, 3) := by decide +kernel
theorem dX3_append_23 : decode cX3_append 23 = .ok (.iconst 0, 1) := by decide +kernel
theorem dX3_append_24 : decode cX3_append 24 = .ok (.istore_n 2, 1) := by decide +kernel
theorem dX3_append_25 : decode cX3_append 25 = .ok (.iload_n 2, 1) := by decide +kernel
theorem dX3_append_26 : decode cX3_append 26 = .ok (.aload_n 1, 1) := by decide +kernel
theorem dX3_append_27 : decode cX3_append 27 = .ok (.getfield 15, 3) := by decide +kernel
theorem dX3_append_30 : decode cX3_append 30 = .ok (.if_icmp .ge 18, 3) := by decide +kernel
theorem dX3_append_33 : decode cX3_append 33 = .ok (.aload_n 0, 1) := by decide +kernel
theorem dX3_append_34 : decode cX3_append 34 = .ok (.aload_n 1, 1) := by decide +kernel
theorem dX3_append_35 : decode cX3_append 35 = .ok (.iload_n 2, 1) := by decide +kernel
theorem dX3_append_36 : decode cX3_append 36 = .ok (.invokevirtual 32, 3) := by decide +kernel
theorem dX3_append_39 : decode cX3_append 39 = .ok (.invokevirtual 36, 3) := by decide +kernel
theorem dX3_append_42 : decode cX3_append 42 = .ok (.iinc 2 1, 3) := by decide +kernel
theorem dX3_append_45 : decode cX3_append 45 = .ok (.goto (-20), 3) := by decide +kernel
theorem dX3_append_48 : decode cX3_append 48 = .ok (.return_, 1) := by decide +kernel
theorem dX3_pushLittle_0 : decode cX3_pushLittle 0 = .ok (.iconst 0, 1) := by decide +kernel
theorem dX3_pushLittle_1 : decode cX3_pushLittle 1 = .ok (.istore 4, 2) := by decide +kernel
theorem dX3_pushLittle_3 : decode cX3_pushLittle 3 = .ok (.iload 4, 2) := by decide +kernel
theorem dX3_pushLittle_5 : decode cX3_pushLittle 5 = .ok (.iload_n 3, 1) := by decide +kernel
theorem dX3_pushLittle_6 : decode cX3_pushLittle 6 = .ok (.if_icmp .ge 21, 3) := by decide +kernel
theorem dX3_pushLittle_9 : decode cX3_pushLittle 9 = .ok (.aload_n 0, 1) := by decide +kernel
theorem dX3_pushLittle_10 : decode cX3_pushLittle 10 = .ok (.lload_n 1, 1) := by decide +kernel
theorem dX3_pushLittle_11 : decode cX3_pushLittle 11 = .ok (.bipush 8, 2) := by decide +kernel
theorem dX3_pushLittle_13 : decode cX3_pushLittle 13 = .ok (.iload 4, 2) := by decide +kernel
theorem dX3_pushLittle_15 : decode cX3_pushLittle 15 = .ok (.imul, 1) := by decide +kernel
theorem dX3_pushLittle_16 : decode cX3_pushLittle 16 = .ok (.lushr, 1) := by decide +kernel
theorem dX3_pushLittle_17 : decode cX3_pushLittle 17 = .ok (.l2i, 1) := by decide +kernel
theorem dX3_pushLittle_18 : decode cX3_pushLittle 18 = .ok (.invokevirtual 36, 3) := by decide +kernel
theorem dX3_pushLittle_21 : decode cX3_pushLittle 21 = .ok (.iinc 4 1, 3) := by decide +kernel
theorem dX3_pushLittle_24 : decode cX3_pushLittle 24 = .ok (.goto (-21), 3) := by decide +kernel
theorem dX3_pushLittle_27 : decode cX3_pushLittle 27 = .ok (.return_, 1) := by decide +kernel
theorem dX3_pushVar_0 : decode cX3_pushVar 0 = .ok (.lload_n 1, 1) := by decide +kernel
theorem dX3_pushVar_1 : decode cX3_pushVar 1 = .ok (.lstore_n 3, 1) := by decide +kernel
theorem dX3_pushVar_2 : decode cX3_pushVar 2 = .ok (.iconst 0, 1) := by decide +kernel
theorem dX3_pushVar_3 : decode cX3_pushVar 3 = .ok (.istore 5, 2) := by decide +kernel
theorem dX3_pushVar_5 : decode cX3_pushVar 5 = .ok (.iload 5, 2) := by decide +kernel
theorem dX3_pushVar_7 : decode cX3_pushVar 7 = .ok (.bipush 9, 2) := by decide +kernel
theorem dX3_pushVar_9 : decode cX3_pushVar 9 = .ok (.if_icmp .ge 37, 3) := by decide +kernel
theorem dX3_pushVar_12 : decode cX3_pushVar 12 = .ok (.lload_n 3, 1) := by decide +kernel
theorem dX3_pushVar_13 : decode cX3_pushVar 13 = .ok (.bipush 7, 2) := by decide +kernel
theorem dX3_pushVar_15 : decode cX3_pushVar 15 = .ok (.lushr, 1) := by decide +kernel
theorem dX3_pushVar_16 : decode cX3_pushVar 16 = .ok (.lconst 0, 1) := by decide +kernel
theorem dX3_pushVar_17 : decode cX3_pushVar 17 = .ok (.lcmp, 1) := by decide +kernel
theorem dX3_pushVar_18 : decode cX3_pushVar 18 = .ok (.ifCond .eq 28, 3) := by decide +kernel
theorem dX3_pushVar_21 : decode cX3_pushVar 21 = .ok (.aload_n 0, 1) := by decide +kernel
theorem dX3_pushVar_22 : decode cX3_pushVar 22 = .ok (.lload_n 3, 1) := by decide +kernel
theorem dX3_pushVar_23 : decode cX3_pushVar 23 = .ok (.ldc2_w 40, 3) := by decide +kernel
theorem dX3_pushVar_26 : decode cX3_pushVar 26 = .ok (.land, 1) := by decide +kernel
theorem dX3_pushVar_27 : decode cX3_pushVar 27 = .ok (.l2i, 1) := by decide +kernel
theorem dX3_pushVar_28 : decode cX3_pushVar 28 = .ok (.sipush 128, 3) := by decide +kernel
theorem dX3_pushVar_31 : decode cX3_pushVar 31 = .ok (.iadd, 1) := by decide +kernel
theorem dX3_pushVar_32 : decode cX3_pushVar 32 = .ok (.invokevirtual 36, 3) := by decide +kernel
theorem dX3_pushVar_35 : decode cX3_pushVar 35 = .ok (.lload_n 3, 1) := by decide +kernel
theorem dX3_pushVar_36 : decode cX3_pushVar 36 = .ok (.bipush 7, 2) := by decide +kernel
theorem dX3_pushVar_38 : decode cX3_pushVar 38 = .ok (.lushr, 1) := by decide +kernel
theorem dX3_pushVar_39 : decode cX3_pushVar 39 = .ok (.lstore_n 3, 1) := by decide +kernel
theorem dX3_pushVar_40 : decode cX3_pushVar 40 = .ok (.iinc 5 1, 3) := by decide +kernel
theorem dX3_pushVar_43 : decode cX3_pushVar 43 = .ok (.goto (-38), 3) := by decide +kernel
theorem dX3_pushVar_46 : decode cX3_pushVar 46 = .ok (.aload_n 0, 1) := by decide +kernel
theorem dX3_pushVar_47 : decode cX3_pushVar 47 = .ok (.lload_n 3, 1) := by decide +kernel
theorem dX3_pushVar_48 : decode cX3_pushVar 48 = .ok (.l2i, 1) := by decide +kernel
theorem dX3_pushVar_49 : decode cX3_pushVar 49 = .ok (.invokevirtual 36, 3) := by decide +kernel
theorem dX3_pushVar_52 : decode cX3_pushVar 52 = .ok (.return_, 1) := by decide +kernel
theorem dX3_tellLength_0 : decode cX3_tellLength 0 = .ok (.aload_n 0, 1) := by decide +kernel
theorem dX3_tellLength_1 : decode cX3_tellLength 1 = .ok (.getfield 15, 3) := by decide +kernel
theorem dX3_tellLength_4 : decode cX3_tellLength 4 = .ok (.iload_n 1, 1) := by decide +kernel
theorem dX3_tellLength_5 : decode cX3_tellLength 5 = .ok (.isub, 1) := by decide +kernel
theorem dX3_tellLength_6 : decode cX3_tellLength 6 = .ok (.iconst 4, 1) := by decide +kernel
theorem dX3_tellLength_7 : decode cX3_tellLength 7 = .ok (.isub, 1) := by decide +kernel
theorem dX3_tellLength_8 : decode cX3_tellLength 8 = .ok (.istore_n 2, 1) := by decide +kernel
theorem dX3_tellLength_9 : decode cX3_tellLength 9 = .ok (.iconst 0, 1) := by decide +kernel
theorem dX3_tellLength_10 : decode cX3_tellLength 10 = .ok (.istore_n 3, 1) := by decide +kernel
theorem dX3_tellLength_11 : decode cX3_tellLength 11 = .ok (.iload_n 3, 1) := by decide +kernel
theorem dX3_tellLength_12 : decode cX3_tellLength 12 = .ok (.iconst 4, 1) := by decide +kernel
theorem dX3_tellLength_13 : decode cX3_tellLength 13 = .ok (.if_icmp .ge 22, 3) := by decide +kernel
theorem dX3_tellLength_16 : decode cX3_tellLength 16 = .ok (.aload_n 0, 1) := by decide +kernel
theorem dX3_tellLength_17 : decode cX3_tellLength 17 = .ok (.iload_n 1, 1) := by decide +kernel
theorem dX3_tellLength_18 : decode cX3_tellLength 18 = .ok (.iload_n 3, 1) := by decide +kernel
theorem dX3_tellLength_19 : decode cX3_tellLength 19 = .ok (.iadd, 1) := by decide +kernel
theorem dX3_tellLength_20 : decode cX3_tellLength 20 = .ok (.iload_n 2, 1) := by decide +kernel
theorem dX3_tellLength_21 : decode cX3_tellLength 21 = .ok (.bipush 8, 2) := by decide +kernel
theorem dX3_tellLength_23 : decode cX3_tellLength 23 = .ok (.iload_n 3, 1) := by decide +kernel
theorem dX3_tellLength_24 : decode cX3_tellLength 24 = .ok (.imul, 1) := by decide +kernel
theorem dX3_tellLength_25 : decode cX3_tellLength 25 = .ok (.iushr, 1) := by decide +kernel
theorem dX3_tellLength_26 : decode cX3_tellLength 26 = .ok (.invokevirtual 42, 3) := by decide +kernel
theorem dX3_tellLength_29 : decode cX3_tellLength 29 = .ok (.iinc 3 1, 3) := by decide +kernel
theorem dX3_tellLength_32 : decode cX3_tellLength 32 = .ok (.goto (-21), 3) := by decide +kernel
theorem dX3_tellLength_35 : decode cX3_tellLength 35 = .ok (.return_, 1) := by decide +kernel
theorem dX3_pushPacked_0 : decode cX3_pushPacked 0 = .ok (.iconst 0, 1) := by decide +kernel
theorem dX3_pushPacked_1 : decode cX3_pushPacked 1 = .ok (.istore 6, 2) := by decide +kernel
theorem dX3_pushPacked_3 : decode cX3_pushPacked 3 = .ok (.iconst 0, 1) := by decide +kernel
theorem dX3_pushPacked_4 : decode cX3_pushPacked 4 = .ok (.istore 7, 2) := by decide +kernel
theorem dX3_pushPacked_6 : decode cX3_pushPacked 6 = .ok (.iload_n 2, 1) := by decide +kernel
theorem dX3_pushPacked_7 : decode cX3_pushPacked 7 = .ok (.istore 8, 2) := by decide +kernel
theorem dX3_pushPacked_9 : decode cX3_pushPacked 9 = .ok (.iload 8, 2) := by decide +kernel
theorem dX3_pushPacked_11 : decode cX3_pushPacked 11 = .ok (.iload_n 2, 1) := by decide +kernel
theorem dX3_pushPacked_12 : decode cX3_pushPacked 12 = .ok (.iload 4, 2) := by decide +kernel
theorem dX3_pushPacked_14 : decode cX3_pushPacked 14 = .ok (.iadd, 1) := by decide +kernel
theorem dX3_pushPacked_15 : decode cX3_pushPacked 15 = .ok (.if_icmp .ge 91, 3) := by decide +kernel
theorem dX3_pushPacked_18 : decode cX3_pushPacked 18 = .ok (.iload 8, 2) := by decide +kernel
theorem dX3_pushPacked_20 : decode cX3_pushPacked 20 = .ok (.ifCond .lt 23, 3) := by decide +kernel
theorem dX3_pushPacked_23 : decode cX3_pushPacked 23 = .ok (.iload 8, 2) := by decide +kernel
theorem dX3_pushPacked_25 : decode cX3_pushPacked 25 = .ok (.iload_n 3, 1) := by decide +kernel
theorem dX3_pushPacked_26 : decode cX3_pushPacked 26 = .ok (.if_icmp .ge 17, 3) := by decide +kernel
theorem dX3_pushPacked_29 : decode cX3_pushPacked 29 = .ok (.iload 8, 2) := by decide +kernel
theorem dX3_pushPacked_31 : decode cX3_pushPacked 31 = .ok (.aload_n 1, 1) := by decide +kernel
theorem dX3_pushPacked_32 : decode cX3_pushPacked 32 = .ok (.arraylength, 1) := by decide +kernel
theorem dX3_pushPacked_33 : decode cX3_pushPacked 33 = .ok (.if_icmp .ge 10, 3) := by decide +kernel
theorem dX3_pushPacked_36 : decode cX3_pushPacked 36 = .ok (.aload_n 1, 1) := by decide +kernel
theorem dX3_pushPacked_37 : decode cX3_pushPacked 37 = .ok (.iload 8, 2) := by decide +kernel
theorem dX3_pushPacked_39 : decode cX3_pushPacked 39 = .ok (.laload, 1) := by decide +kernel
theorem dX3_pushPacked_40 : decode cX3_pushPacked 40 = .ok (.goto 4, 3) := by decide +kernel
theorem dX3_pushPacked_43 : decode cX3_pushPacked 43 = .ok (.lconst 0, 1) := by decide +kernel
theorem dX3_pushPacked_44 : decode cX3_pushPacked 44 = .ok (.lstore 9, 2) := by decide +kernel
theorem dX3_pushPacked_46 : decode cX3_pushPacked 46 = .ok (.iconst 0, 1) := by decide +kernel
theorem dX3_pushPacked_47 : decode cX3_pushPacked 47 = .ok (.istore 11, 2) := by decide +kernel
theorem dX3_pushPacked_49 : decode cX3_pushPacked 49 = .ok (.iload 11, 2) := by decide +kernel
theorem dX3_pushPacked_51 : decode cX3_pushPacked 51 = .ok (.iload 5, 2) := by decide +kernel
theorem dX3_pushPacked_53 : decode cX3_pushPacked 53 = .ok (.if_icmp .ge 47, 3) := by decide +kernel
theorem dX3_pushPacked_56 : decode cX3_pushPacked 56 = .ok (.iload 6, 2) := by decide +kernel
theorem dX3_pushPacked_58 : decode cX3_pushPacked 58 = .ok (.lload 9, 2) := by decide +kernel
theorem dX3_pushPacked_60 : decode cX3_pushPacked 60 = .ok (.iload 11, 2) := by decide +kernel
theorem dX3_pushPacked_62 : decode cX3_pushPacked 62 = .ok (.lushr, 1) := by decide +kernel
theorem dX3_pushPacked_63 : decode cX3_pushPacked 63 = .ok (.lconst 1, 1) := by decide +kernel
theorem dX3_pushPacked_64 : decode cX3_pushPacked 64 = .ok (.land, 1) := by decide +kernel
theorem dX3_pushPacked_65 : decode cX3_pushPacked 65 = .ok (.l2i, 1) := by decide +kernel
theorem dX3_pushPacked_66 : decode cX3_pushPacked 66 = .ok (.iload 7, 2) := by decide +kernel
theorem dX3_pushPacked_68 : decode cX3_pushPacked 68 = .ok (.ishl, 1) := by decide +kernel
theorem dX3_pushPacked_69 : decode cX3_pushPacked 69 = .ok (.ior, 1) := by decide +kernel
theorem dX3_pushPacked_70 : decode cX3_pushPacked 70 = .ok (.istore 6, 2) := by decide +kernel
theorem dX3_pushPacked_72 : decode cX3_pushPacked 72 = .ok (.iinc 7 1, 3) := by decide +kernel
theorem dX3_pushPacked_75 : decode cX3_pushPacked 75 = .ok (.iload 7, 2) := by decide +kernel
theorem dX3_pushPacked_77 : decode cX3_pushPacked 77 = .ok (.bipush 8, 2) := by decide +kernel
theorem dX3_pushPacked_79 : decode cX3_pushPacked 79 = .ok (.if_icmp .ne 15, 3) := by decide +kernel
theorem dX3_pushPacked_82 : decode cX3_pushPacked 82 = .ok (.aload_n 0, 1) := by decide +kernel
theorem dX3_pushPacked_83 : decode cX3_pushPacked 83 = .ok (.iload 6, 2) := by decide +kernel
theorem dX3_pushPacked_85 : decode cX3_pushPacked 85 = .ok (.invokevirtual 36, 3) := by decide +kernel
theorem dX3_pushPacked_88 : decode cX3_pushPacked 88 = .ok (.iconst 0, 1) := by decide +kernel
theorem dX3_pushPacked_89 : decode cX3_pushPacked 89 = .ok (.istore 6, 2) := by decide +kernel
theorem dX3_pushPacked_91 : decode cX3_pushPacked 91 = .ok (.iconst 0, 1) := by decide +kernel
theorem dX3_pushPacked_92 : decode cX3_pushPacked 92 = .ok (.istore 7, 2) := by decide +kernel
theorem dX3_pushPacked_94 : decode cX3_pushPacked 94 = .ok (.iinc 11 1, 3) := by decide +kernel
theorem dX3_pushPacked_97 : decode cX3_pushPacked 97 = .ok (.goto (-48), 3) := by decide +kernel
theorem dX3_pushPacked_100 : decode cX3_pushPacked 100 = .ok (.iinc 8 1, 3) := by decide +kernel
theorem dX3_pushPacked_103 : decode cX3_pushPacked 103 = .ok (.goto (-94), 3) := by decide +kernel
theorem dX3_pushPacked_106 : decode cX3_pushPacked 106 = .ok (.return_, 1) := by decide +kernel
theorem dX3_pushRuns_0 : decode cX3_pushRuns 0 = .ok (.iconst 0, 1) := by decide +kernel
theorem dX3_pushRuns_1 : decode cX3_pushRuns 1 = .ok (.istore 4, 2) := by decide +kernel
theorem dX3_pushRuns_3 : decode cX3_pushRuns 3 = .ok (.iconst 0, 1) := by decide +kernel
theorem dX3_pushRuns_4 : decode cX3_pushRuns 4 = .ok (.istore 5, 2) := by decide +kernel
theorem dX3_pushRuns_6 : decode cX3_pushRuns 6 = .ok (.iload 5, 2) := by decide +kernel
theorem dX3_pushRuns_8 : decode cX3_pushRuns 8 = .ok (.iload_n 2, 1) := by decide +kernel
theorem dX3_pushRuns_9 : decode cX3_pushRuns 9 = .ok (.if_icmp .ge 131, 3) := by decide +kernel
theorem dX3_pushRuns_12 : decode cX3_pushRuns 12 = .ok (.iload 4, 2) := by decide +kernel
theorem dX3_pushRuns_14 : decode cX3_pushRuns 14 = .ok (.iload_n 2, 1) := by decide +kernel
theorem dX3_pushRuns_15 : decode cX3_pushRuns 15 = .ok (.if_icmp .ge 125, 3) := by decide +kernel
theorem dX3_pushRuns_18 : decode cX3_pushRuns 18 = .ok (.iload 4, 2) := by decide +kernel
theorem dX3_pushRuns_20 : decode cX3_pushRuns 20 = .ok (.aload_n 1, 1) := by decide +kernel
theorem dX3_pushRuns_21 : decode cX3_pushRuns 21 = .ok (.arraylength, 1) := by decide +kernel
theorem dX3_pushRuns_22 : decode cX3_pushRuns 22 = .ok (.if_icmp .ge 118, 3) := by decide +kernel
theorem dX3_pushRuns_25 : decode cX3_pushRuns 25 = .ok (.aload_n 1, 1) := by decide +kernel
theorem dX3_pushRuns_26 : decode cX3_pushRuns 26 = .ok (.iload 4, 2) := by decide +kernel
theorem dX3_pushRuns_28 : decode cX3_pushRuns 28 = .ok (.iload_n 2, 1) := by decide +kernel
theorem dX3_pushRuns_29 : decode cX3_pushRuns 29 = .ok (.invokestatic 46, 3) := by decide +kernel
theorem dX3_pushRuns_32 : decode cX3_pushRuns 32 = .ok (.istore 6, 2) := by decide +kernel
theorem dX3_pushRuns_34 : decode cX3_pushRuns 34 = .ok (.iload 6, 2) := by decide +kernel
theorem dX3_pushRuns_36 : decode cX3_pushRuns 36 = .ok (.bipush 8, 2) := by decide +kernel
theorem dX3_pushRuns_38 : decode cX3_pushRuns 38 = .ok (.if_icmp .lt 39, 3) := by decide +kernel
theorem dX3_pushRuns_41 : decode cX3_pushRuns 41 = .ok (.aload_n 0, 1) := by decide +kernel
theorem dX3_pushRuns_42 : decode cX3_pushRuns 42 = .ok (.ldc2_w 50, 3) := by decide +kernel
theorem dX3_pushRuns_45 : decode cX3_pushRuns 45 = .ok (.iload 6, 2) := by decide +kernel
theorem dX3_pushRuns_47 : decode cX3_pushRuns 47 = .ok (.i2l, 1) := by decide +kernel
theorem dX3_pushRuns_48 : decode cX3_pushRuns 48 = .ok (.lmul, 1) := by decide +kernel
theorem dX3_pushRuns_49 : decode cX3_pushRuns 49 = .ok (.invokevirtual 52, 3) := by decide +kernel
theorem dX3_pushRuns_52 : decode cX3_pushRuns 52 = .ok (.aload_n 0, 1) := by decide +kernel
theorem dX3_pushRuns_53 : decode cX3_pushRuns 53 = .ok (.aload_n 1, 1) := by decide +kernel
theorem dX3_pushRuns_54 : decode cX3_pushRuns 54 = .ok (.iload 4, 2) := by decide +kernel
theorem dX3_pushRuns_56 : decode cX3_pushRuns 56 = .ok (.laload, 1) := by decide +kernel
theorem dX3_pushRuns_57 : decode cX3_pushRuns 57 = .ok (.iload_n 3, 1) := by decide +kernel
theorem dX3_pushRuns_58 : decode cX3_pushRuns 58 = .ok (.bipush 7, 2) := by decide +kernel
theorem dX3_pushRuns_60 : decode cX3_pushRuns 60 = .ok (.iadd, 1) := by decide +kernel
theorem dX3_pushRuns_61 : decode cX3_pushRuns 61 = .ok (.bipush 8, 2) := by decide +kernel
theorem dX3_pushRuns_63 : decode cX3_pushRuns 63 = .ok (.idiv, 1) := by decide +kernel
theorem dX3_pushRuns_64 : decode cX3_pushRuns 64 = .ok (.invokevirtual 56, 3) := by decide +kernel
theorem dX3_pushRuns_67 : decode cX3_pushRuns 67 = .ok (.iload 4, 2) := by decide +kernel
theorem dX3_pushRuns_69 : decode cX3_pushRuns 69 = .ok (.iload 6, 2) := by decide +kernel
theorem dX3_pushRuns_71 : decode cX3_pushRuns 71 = .ok (.iadd, 1) := by decide +kernel
theorem dX3_pushRuns_72 : decode cX3_pushRuns 72 = .ok (.istore 4, 2) := by decide +kernel
theorem dX3_pushRuns_74 : decode cX3_pushRuns 74 = .ok (.goto 60, 3) := by decide +kernel
theorem dX3_pushRuns_77 : decode cX3_pushRuns 77 = .ok (.aload_n 1, 1) := by decide +kernel
theorem dX3_pushRuns_78 : decode cX3_pushRuns 78 = .ok (.iload 4, 2) := by decide +kernel
theorem dX3_pushRuns_80 : decode cX3_pushRuns 80 = .ok (.iload_n 2, 1) := by decide +kernel
theorem dX3_pushRuns_81 : decode cX3_pushRuns 81 = .ok (.invokestatic 60, 3) := by decide +kernel
theorem dX3_pushRuns_84 : decode cX3_pushRuns 84 = .ok (.istore 7, 2) := by decide +kernel
theorem dX3_pushRuns_86 : decode cX3_pushRuns 86 = .ok (.iload 7, 2) := by decide +kernel
theorem dX3_pushRuns_88 : decode cX3_pushRuns 88 = .ok (.iload 4, 2) := by decide +kernel
theorem dX3_pushRuns_90 : decode cX3_pushRuns 90 = .ok (.isub, 1) := by decide +kernel
theorem dX3_pushRuns_91 : decode cX3_pushRuns 91 = .ok (.invokestatic 63, 3) := by decide +kernel
theorem dX3_pushRuns_94 : decode cX3_pushRuns 94 = .ok (.istore 8, 2) := by decide +kernel
theorem dX3_pushRuns_96 : decode cX3_pushRuns 96 = .ok (.aload_n 0, 1) := by decide +kernel
theorem dX3_pushRuns_97 : decode cX3_pushRuns 97 = .ok (.ldc2_w 50, 3) := by decide +kernel
theorem dX3_pushRuns_100 : decode cX3_pushRuns 100 = .ok (.iload 8, 2) := by decide +kernel
theorem dX3_pushRuns_102 : decode cX3_pushRuns 102 = .ok (.i2l, 1) := by decide +kernel
theorem dX3_pushRuns_103 : decode cX3_pushRuns 103 = .ok (.lmul, 1) := by decide +kernel
theorem dX3_pushRuns_104 : decode cX3_pushRuns 104 = .ok (.lconst 1, 1) := by decide +kernel
theorem dX3_pushRuns_105 : decode cX3_pushRuns 105 = .ok (.ladd, 1) := by decide +kernel
theorem dX3_pushRuns_106 : decode cX3_pushRuns 106 = .ok (.invokevirtual 52, 3) := by decide +kernel
theorem dX3_pushRuns_109 : decode cX3_pushRuns 109 = .ok (.aload_n 0, 1) := by decide +kernel
theorem dX3_pushRuns_110 : decode cX3_pushRuns 110 = .ok (.aload_n 1, 1) := by decide +kernel
theorem dX3_pushRuns_111 : decode cX3_pushRuns 111 = .ok (.iload 4, 2) := by decide +kernel
theorem dX3_pushRuns_113 : decode cX3_pushRuns 113 = .ok (.iload 7, 2) := by decide +kernel
theorem dX3_pushRuns_115 : decode cX3_pushRuns 115 = .ok (.iload 8, 2) := by decide +kernel
theorem dX3_pushRuns_117 : decode cX3_pushRuns 117 = .ok (.bipush 8, 2) := by decide +kernel
theorem dX3_pushRuns_119 : decode cX3_pushRuns 119 = .ok (.imul, 1) := by decide +kernel
theorem dX3_pushRuns_120 : decode cX3_pushRuns 120 = .ok (.iload_n 3, 1) := by decide +kernel
theorem dX3_pushRuns_121 : decode cX3_pushRuns 121 = .ok (.invokevirtual 66, 3) := by decide +kernel
theorem dX3_pushRuns_124 : decode cX3_pushRuns 124 = .ok (.iload 4, 2) := by decide +kernel
theorem dX3_pushRuns_126 : decode cX3_pushRuns 126 = .ok (.iload 8, 2) := by decide +kernel
theorem dX3_pushRuns_128 : decode cX3_pushRuns 128 = .ok (.bipush 8, 2) := by decide +kernel
theorem dX3_pushRuns_130 : decode cX3_pushRuns 130 = .ok (.imul, 1) := by decide +kernel
theorem dX3_pushRuns_131 : decode cX3_pushRuns 131 = .ok (.iadd, 1) := by decide +kernel
theorem dX3_pushRuns_132 : decode cX3_pushRuns 132 = .ok (.istore 4, 2) := by decide +kernel
theorem dX3_pushRuns_134 : decode cX3_pushRuns 134 = .ok (.iinc 5 1, 3) := by decide +kernel
theorem dX3_pushRuns_137 : decode cX3_pushRuns 137 = .ok (.goto (-131), 3) := by decide +kernel
theorem dX3_pushRuns_140 : decode cX3_pushRuns 140 = .ok (.return_, 1) := by decide +kernel
theorem dX3_groupsEnd_0 : decode cX3_groupsEnd 0 = .ok (.iload_n 1, 1) := by decide +kernel
theorem dX3_groupsEnd_1 : decode cX3_groupsEnd 1 = .ok (.bipush 8, 2) := by decide +kernel
theorem dX3_groupsEnd_3 : decode cX3_groupsEnd 3 = .ok (.iadd, 1) := by decide +kernel
theorem dX3_groupsEnd_4 : decode cX3_groupsEnd 4 = .ok (.istore_n 3, 1) := by decide +kernel
theorem dX3_groupsEnd_5 : decode cX3_groupsEnd 5 = .ok (.iload_n 3, 1) := by decide +kernel
theorem dX3_groupsEnd_6 : decode cX3_groupsEnd 6 = .ok (.iload_n 2, 1) := by decide +kernel
theorem dX3_groupsEnd_7 : decode cX3_groupsEnd 7 = .ok (.if_icmp .ge 20, 3) := by decide +kernel
theorem dX3_groupsEnd_10 : decode cX3_groupsEnd 10 = .ok (.aload_n 0, 1) := by decide +kernel
theorem dX3_groupsEnd_11 : decode cX3_groupsEnd 11 = .ok (.iload_n 3, 1) := by decide +kernel
theorem dX3_groupsEnd_12 : decode cX3_groupsEnd 12 = .ok (.iload_n 2, 1) := by decide +kernel
theorem dX3_groupsEnd_13 : decode cX3_groupsEnd 13 = .ok (.invokestatic 46, 3) := by decide +kernel
theorem dX3_groupsEnd_16 : decode cX3_groupsEnd 16 = .ok (.bipush 8, 2) := by decide +kernel
theorem dX3_groupsEnd_18 : decode cX3_groupsEnd 18 = .ok (.if_icmp .ge 9, 3) := by decide +kernel
theorem dX3_groupsEnd_21 : decode cX3_groupsEnd 21 = .ok (.iinc 3 8, 3) := by decide +kernel
theorem dX3_groupsEnd_24 : decode cX3_groupsEnd 24 = .ok (.goto (-19), 3) := by decide +kernel
theorem dX3_groupsEnd_27 : decode cX3_groupsEnd 27 = .ok (.iload_n 3, 1) := by decide +kernel
theorem dX3_groupsEnd_28 : decode cX3_groupsEnd 28 = .ok (.iload_n 2, 1) := by decide +kernel
theorem dX3_groupsEnd_29 : decode cX3_groupsEnd 29 = .ok (.invokestatic 23, 3) := by decide +kernel
theorem dX3_groupsEnd_32 : decode cX3_groupsEnd 32 = .ok (.ireturn, 1) := by decide +kernel
theorem dX3_equalFrom_0 : decode cX3_equalFrom 0 = .ok (.iload_n 1, 1) := by decide +kernel
theorem dX3_equalFrom_1 : decode cX3_equalFrom 1 = .ok (.iconst 1, 1) := by decide +kernel
theorem dX3_equalFrom_2 : decode cX3_equalFrom 2 = .ok (.iadd, 1) := by decide +kernel
theorem dX3_equalFrom_3 : decode cX3_equalFrom 3 = .ok (.istore_n 3, 1) := by decide +kernel
theorem dX3_equalFrom_4 : decode cX3_equalFrom 4 = .ok (.iload_n 1, 1) := by decide +kernel
theorem dX3_equalFrom_5 : decode cX3_equalFrom 5 = .ok (.ifCond .lt 30, 3) := by decide +kernel
theorem dX3_equalFrom_8 : decode cX3_equalFrom 8 = .ok (.iload_n 3, 1) := by decide +kernel
theorem dX3_equalFrom_9 : decode cX3_equalFrom 9 = .ok (.iload_n 2, 1) := by decide +kernel
theorem dX3_equalFrom_10 : decode cX3_equalFrom 10 = .ok (.if_icmp .ge 25, 3) := by decide +kernel
theorem dX3_equalFrom_13 : decode cX3_equalFrom 13 = .ok (.iload_n 3, 1) := by decide +kernel
theorem dX3_equalFrom_14 : decode cX3_equalFrom 14 = .ok (.aload_n 0, 1) := by decide +kernel
theorem dX3_equalFrom_15 : decode cX3_equalFrom 15 = .ok (.arraylength, 1) := by decide +kernel
theorem dX3_equalFrom_16 : decode cX3_equalFrom 16 = .ok (.if_icmp .ge 19, 3) := by decide +kernel
theorem dX3_equalFrom_19 : decode cX3_equalFrom 19 = .ok (.aload_n 0, 1) := by decide +kernel
theorem dX3_equalFrom_20 : decode cX3_equalFrom 20 = .ok (.iload_n 3, 1) := by decide +kernel
theorem dX3_equalFrom_21 : decode cX3_equalFrom 21 = .ok (.laload, 1) := by decide +kernel
theorem dX3_equalFrom_22 : decode cX3_equalFrom 22 = .ok (.aload_n 0, 1) := by decide +kernel
theorem dX3_equalFrom_23 : decode cX3_equalFrom 23 = .ok (.iload_n 1, 1) := by decide +kernel
theorem dX3_equalFrom_24 : decode cX3_equalFrom 24 = .ok (.laload, 1) := by decide +kernel
theorem dX3_equalFrom_25 : decode cX3_equalFrom 25 = .ok (.lcmp, 1) := by decide +kernel
theorem dX3_equalFrom_26 : decode cX3_equalFrom 26 = .ok (.ifCond .ne 9, 3) := by decide +kernel
theorem dX3_equalFrom_29 : decode cX3_equalFrom 29 = .ok (.iinc 3 1, 3) := by decide +kernel
theorem dX3_equalFrom_32 : decode cX3_equalFrom 32 = .ok (.goto (-28), 3) := by decide +kernel
theorem dX3_equalFrom_35 : decode cX3_equalFrom 35 = .ok (.iload_n 3, 1) := by decide +kernel
theorem dX3_equalFrom_36 : decode cX3_equalFrom 36 = .ok (.iload_n 1, 1) := by decide +kernel
theorem dX3_equalFrom_37 : decode cX3_equalFrom 37 = .ok (.isub, 1) := by decide +kernel
theorem dX3_equalFrom_38 : decode cX3_equalFrom 38 = .ok (.ireturn, 1) := by decide +kernel
theorem dX3_pushDifferences_0 : decode cX3_pushDifferences 0 = .ok (.aload_n 0, 1) := by decide +kernel
theorem dX3_pushDifferences_1 : decode cX3_pushDifferences 1 = .ok (.ldc2_w 70, 3) := by decide +kernel
theorem dX3_pushDifferences_4 : decode cX3_pushDifferences 4 = .ok (.invokevirtual 52, 3) := by decide +kernel
theorem dX3_pushDifferences_7 : decode cX3_pushDifferences 7 = .ok (.aload_n 0, 1) := by decide +kernel
theorem dX3_pushDifferences_8 : decode cX3_pushDifferences 8 = .ok (.ldc2_w 72, 3) := by decide +kernel
theorem dX3_pushDifferences_11 : decode cX3_pushDifferences 11 = .ok (.invokevirtual 52, 3) := by decide +kernel
theorem dX3_pushDifferences_14 : decode cX3_pushDifferences 14 = .ok (.aload_n 0, 1) := by decide +kernel
theorem dX3_pushDifferences_15 : decode cX3_pushDifferences 15 = .ok (.iload_n 2, 1) := by decide +kernel
theorem dX3_pushDifferences_16 : decode cX3_pushDifferences 16 = .ok (.i2l, 1) := by decide +kernel
theorem dX3_pushDifferences_17 : decode cX3_pushDifferences 17 = .ok (.invokevirtual 52, 3) := by decide +kernel
theorem dX3_pushDifferences_20 : decode cX3_pushDifferences 20 = .ok (.aload_n 0, 1) := by decide +kernel
theorem dX3_pushDifferences_21 : decode cX3_pushDifferences 21 = .ok (.iload_n 2, 1) := by decide +kernel
theorem dX3_pushDifferences_22 : decode cX3_pushDifferences 22 = .ok (.ifCond .le 14, 3) := by decide +kernel
theorem dX3_pushDifferences_25 : decode cX3_pushDifferences 25 = .ok (.aload_n 1, 1) := by decide +kernel
theorem dX3_pushDifferences_26 : decode cX3_pushDifferences 26 = .ok (.arraylength, 1) := by decide +kernel
theorem dX3_pushDifferences_27 : decode cX3_pushDifferences 27 = .ok (.ifCond .le 9, 3) := by decide +kernel
theorem dX3_pushDifferences_30 : decode cX3_pushDifferences 30 = .ok (.aload_n 1, 1) := by decide +kernel
theorem dX3_pushDifferences_31 : decode cX3_pushDifferences 31 = .ok (.iconst 0, 1) := by decide +kernel
theorem dX3_pushDifferences_32 : decode cX3_pushDifferences 32 = .ok (.laload, 1) := by decide +kernel
theorem dX3_pushDifferences_33 : decode cX3_pushDifferences 33 = .ok (.goto 4, 3) := by decide +kernel
theorem dX3_pushDifferences_36 : decode cX3_pushDifferences 36 = .ok (.lconst 0, 1) := by decide +kernel
theorem dX3_pushDifferences_37 : decode cX3_pushDifferences 37 = .ok (.invokestatic 74, 3) := by decide +kernel
theorem dX3_pushDifferences_40 : decode cX3_pushDifferences 40 = .ok (.invokevirtual 52, 3) := by decide +kernel
theorem dX3_pushDifferences_43 : decode cX3_pushDifferences 43 = .ok (.iload_n 2, 1) := by decide +kernel
theorem dX3_pushDifferences_44 : decode cX3_pushDifferences 44 = .ok (.aload_n 1, 1) := by decide +kernel
theorem dX3_pushDifferences_45 : decode cX3_pushDifferences 45 = .ok (.arraylength, 1) := by decide +kernel
theorem dX3_pushDifferences_46 : decode cX3_pushDifferences 46 = .ok (.invokestatic 23, 3) := by decide +kernel
theorem dX3_pushDifferences_49 : decode cX3_pushDifferences 49 = .ok (.iconst 1, 1) := by decide +kernel
theorem dX3_pushDifferences_50 : decode cX3_pushDifferences 50 = .ok (.isub, 1) := by decide +kernel
theorem dX3_pushDifferences_51 : decode cX3_pushDifferences 51 = .ok (.istore 4, 2) := by decide +kernel
theorem dX3_pushDifferences_53 : decode cX3_pushDifferences 53 = .ok (.iload 4, 2) := by decide +kernel
theorem dX3_pushDifferences_55 : decode cX3_pushDifferences 55 = .ok (.ifCond .le 39, 3) := by decide +kernel
theorem dX3_pushDifferences_58 : decode cX3_pushDifferences 58 = .ok (.aload_n 1, 1) := by decide +kernel
theorem dX3_pushDifferences_59 : decode cX3_pushDifferences 59 = .ok (.iload 4, 2) := by decide +kernel
theorem dX3_pushDifferences_61 : decode cX3_pushDifferences 61 = .ok (.laload, 1) := by decide +kernel
theorem dX3_pushDifferences_62 : decode cX3_pushDifferences 62 = .ok (.aload_n 1, 1) := by decide +kernel
theorem dX3_pushDifferences_63 : decode cX3_pushDifferences 63 = .ok (.iload 4, 2) := by decide +kernel
theorem dX3_pushDifferences_65 : decode cX3_pushDifferences 65 = .ok (.iconst 1, 1) := by decide +kernel
theorem dX3_pushDifferences_66 : decode cX3_pushDifferences 66 = .ok (.isub, 1) := by decide +kernel
theorem dX3_pushDifferences_67 : decode cX3_pushDifferences 67 = .ok (.laload, 1) := by decide +kernel
theorem dX3_pushDifferences_68 : decode cX3_pushDifferences 68 = .ok (.lsub, 1) := by decide +kernel
theorem dX3_pushDifferences_69 : decode cX3_pushDifferences 69 = .ok (.lstore 5, 2) := by decide +kernel
theorem dX3_pushDifferences_71 : decode cX3_pushDifferences 71 = .ok (.aload_n 1, 1) := by decide +kernel
theorem dX3_pushDifferences_72 : decode cX3_pushDifferences 72 = .ok (.iload 4, 2) := by decide +kernel
theorem dX3_pushDifferences_74 : decode cX3_pushDifferences 74 = .ok (.iload_n 3, 1) := by decide +kernel
theorem dX3_pushDifferences_75 : decode cX3_pushDifferences 75 = .ok (.ifCond .eq 10, 3) := by decide +kernel
theorem dX3_pushDifferences_78 : decode cX3_pushDifferences 78 = .ok (.lload 5, 2) := by decide +kernel
theorem dX3_pushDifferences_80 : decode cX3_pushDifferences 80 = .ok (.l2i, 1) := by decide +kernel
theorem dX3_pushDifferences_81 : decode cX3_pushDifferences 81 = .ok (.i2l, 1) := by decide +kernel
theorem dX3_pushDifferences_82 : decode cX3_pushDifferences 82 = .ok (.goto 5, 3) := by decide +kernel
theorem dX3_pushDifferences_85 : decode cX3_pushDifferences 85 = .ok (.lload 5, 2) := by decide +kernel
theorem dX3_pushDifferences_87 : decode cX3_pushDifferences 87 = .ok (.lastore, 1) := by decide +kernel
theorem dX3_pushDifferences_88 : decode cX3_pushDifferences 88 = .ok (.iinc 4 (-1), 3) := by decide +kernel
theorem dX3_pushDifferences_91 : decode cX3_pushDifferences 91 = .ok (.goto (-38), 3) := by decide +kernel
theorem dX3_pushDifferences_94 : decode cX3_pushDifferences 94 = .ok (.iconst 1, 1) := by decide +kernel
theorem dX3_pushDifferences_95 : decode cX3_pushDifferences 95 = .ok (.istore 4, 2) := by decide +kernel
theorem dX3_pushDifferences_97 : decode cX3_pushDifferences 97 = .ok (.iload 4, 2) := by decide +kernel
theorem dX3_pushDifferences_99 : decode cX3_pushDifferences 99 = .ok (.iload_n 2, 1) := by decide +kernel
theorem dX3_pushDifferences_100 : decode cX3_pushDifferences 100 = .ok (.if_icmp .ge 35, 3) := by decide +kernel
theorem dX3_pushDifferences_103 : decode cX3_pushDifferences 103 = .ok (.aload_n 0, 1) := by decide +kernel
theorem dX3_pushDifferences_104 : decode cX3_pushDifferences 104 = .ok (.aload_n 1, 1) := by decide +kernel
theorem dX3_pushDifferences_105 : decode cX3_pushDifferences 105 = .ok (.iload 4, 2) := by decide +kernel
theorem dX3_pushDifferences_107 : decode cX3_pushDifferences 107 = .ok (.iload 4, 2) := by decide +kernel
theorem dX3_pushDifferences_109 : decode cX3_pushDifferences 109 = .ok (.sipush 128, 3) := by decide +kernel
theorem dX3_pushDifferences_112 : decode cX3_pushDifferences 112 = .ok (.iadd, 1) := by decide +kernel
theorem dX3_pushDifferences_113 : decode cX3_pushDifferences 113 = .ok (.iload_n 2, 1) := by decide +kernel
theorem dX3_pushDifferences_114 : decode cX3_pushDifferences 114 = .ok (.invokestatic 23, 3) := by decide +kernel
theorem dX3_pushDifferences_117 : decode cX3_pushDifferences 117 = .ok (.aload_n 1, 1) := by decide +kernel
theorem dX3_pushDifferences_118 : decode cX3_pushDifferences 118 = .ok (.arraylength, 1) := by decide +kernel
theorem dX3_pushDifferences_119 : decode cX3_pushDifferences 119 = .ok (.invokestatic 23, 3) := by decide +kernel
theorem dX3_pushDifferences_122 : decode cX3_pushDifferences 122 = .ok (.iload_n 3, 1) := by decide +kernel
theorem dX3_pushDifferences_123 : decode cX3_pushDifferences 123 = .ok (.invokevirtual 78, 3) := by decide +kernel
theorem dX3_pushDifferences_126 : decode cX3_pushDifferences 126 = .ok (.iinc 4 128, 6) := by decide +kernel
theorem dX3_pushDifferences_132 : decode cX3_pushDifferences 132 = .ok (.goto (-35), 3) := by decide +kernel
theorem dX3_pushDifferences_135 : decode cX3_pushDifferences 135 = .ok (.return_, 1) := by decide +kernel
theorem dX3_pushBlock_0 : decode cX3_pushBlock 0 = .ok (.aload_n 1, 1) := by decide +kernel
theorem dX3_pushBlock_1 : decode cX3_pushBlock 1 = .ok (.iload_n 2, 1) := by decide +kernel
theorem dX3_pushBlock_2 : decode cX3_pushBlock 2 = .ok (.iload_n 3, 1) := by decide +kernel
theorem dX3_pushBlock_3 : decode cX3_pushBlock 3 = .ok (.iload 4, 2) := by decide +kernel
theorem dX3_pushBlock_5 : decode cX3_pushBlock 5 = .ok (.invokestatic 82, 3) := by decide +kernel
theorem dX3_pushBlock_8 : decode cX3_pushBlock 8 = .ok (.lstore 5, 2) := by decide +kernel
theorem dX3_pushBlock_10 : decode cX3_pushBlock 10 = .ok (.aload_n 0, 1) := by decide +kernel
theorem dX3_pushBlock_11 : decode cX3_pushBlock 11 = .ok (.lload 5, 2) := by decide +kernel
theorem dX3_pushBlock_13 : decode cX3_pushBlock 13 = .ok (.invokestatic 74, 3) := by decide +kernel
theorem dX3_pushBlock_16 : decode cX3_pushBlock 16 = .ok (.invokevirtual 52, 3) := by decide +kernel
theorem dX3_pushBlock_19 : decode cX3_pushBlock 19 = .ok (.iconst 0, 1) := by decide +kernel
theorem dX3_pushBlock_20 : decode cX3_pushBlock 20 = .ok (.istore 7, 2) := by decide +kernel
theorem dX3_pushBlock_22 : decode cX3_pushBlock 22 = .ok (.iload 7, 2) := by decide +kernel
theorem dX3_pushBlock_24 : decode cX3_pushBlock 24 = .ok (.iconst 4, 1) := by decide +kernel
theorem dX3_pushBlock_25 : decode cX3_pushBlock 25 = .ok (.if_icmp .ge 25, 3) := by decide +kernel
theorem dX3_pushBlock_28 : decode cX3_pushBlock 28 = .ok (.aload_n 0, 1) := by decide +kernel
theorem dX3_pushBlock_29 : decode cX3_pushBlock 29 = .ok (.aload_n 1, 1) := by decide +kernel
theorem dX3_pushBlock_30 : decode cX3_pushBlock 30 = .ok (.iload_n 2, 1) := by decide +kernel
theorem dX3_pushBlock_31 : decode cX3_pushBlock 31 = .ok (.iload 7, 2) := by decide +kernel
theorem dX3_pushBlock_33 : decode cX3_pushBlock 33 = .ok (.bipush 32, 2) := by decide +kernel
theorem dX3_pushBlock_35 : decode cX3_pushBlock 35 = .ok (.imul, 1) := by decide +kernel
theorem dX3_pushBlock_36 : decode cX3_pushBlock 36 = .ok (.iadd, 1) := by decide +kernel
theorem dX3_pushBlock_37 : decode cX3_pushBlock 37 = .ok (.iload_n 3, 1) := by decide +kernel
theorem dX3_pushBlock_38 : decode cX3_pushBlock 38 = .ok (.invokestatic 86, 3) := by decide +kernel
theorem dX3_pushBlock_41 : decode cX3_pushBlock 41 = .ok (.invokevirtual 36, 3) := by decide +kernel
theorem dX3_pushBlock_44 : decode cX3_pushBlock 44 = .ok (.iinc 7 1, 3) := by decide +kernel
theorem dX3_pushBlock_47 : decode cX3_pushBlock 47 = .ok (.goto (-25), 3) := by decide +kernel
theorem dX3_pushBlock_50 : decode cX3_pushBlock 50 = .ok (.iconst 0, 1) := by decide +kernel
theorem dX3_pushBlock_51 : decode cX3_pushBlock 51 = .ok (.istore 7, 2) := by decide +kernel
theorem dX3_pushBlock_53 : decode cX3_pushBlock 53 = .ok (.iload 7, 2) := by decide +kernel
theorem dX3_pushBlock_55 : decode cX3_pushBlock 55 = .ok (.iconst 4, 1) := by decide +kernel
theorem dX3_pushBlock_56 : decode cX3_pushBlock 56 = .ok (.if_icmp .ge 41, 3) := by decide +kernel
theorem dX3_pushBlock_59 : decode cX3_pushBlock 59 = .ok (.iload_n 2, 1) := by decide +kernel
theorem dX3_pushBlock_60 : decode cX3_pushBlock 60 = .ok (.iload 7, 2) := by decide +kernel
theorem dX3_pushBlock_62 : decode cX3_pushBlock 62 = .ok (.bipush 32, 2) := by decide +kernel
theorem dX3_pushBlock_64 : decode cX3_pushBlock 64 = .ok (.imul, 1) := by decide +kernel
theorem dX3_pushBlock_65 : decode cX3_pushBlock 65 = .ok (.iadd, 1) := by decide +kernel
theorem dX3_pushBlock_66 : decode cX3_pushBlock 66 = .ok (.istore 8, 2) := by decide +kernel
theorem dX3_pushBlock_68 : decode cX3_pushBlock 68 = .ok (.iload 8, 2) := by decide +kernel
theorem dX3_pushBlock_70 : decode cX3_pushBlock 70 = .ok (.iload_n 3, 1) := by decide +kernel
theorem dX3_pushBlock_71 : decode cX3_pushBlock 71 = .ok (.if_icmp .ge 20, 3) := by decide +kernel
theorem dX3_pushBlock_74 : decode cX3_pushBlock 74 = .ok (.aload_n 0, 1) := by decide +kernel
theorem dX3_pushBlock_75 : decode cX3_pushBlock 75 = .ok (.aload_n 1, 1) := by decide +kernel
theorem dX3_pushBlock_76 : decode cX3_pushBlock 76 = .ok (.iload 8, 2) := by decide +kernel
theorem dX3_pushBlock_78 : decode cX3_pushBlock 78 = .ok (.iload_n 3, 1) := by decide +kernel
theorem dX3_pushBlock_79 : decode cX3_pushBlock 79 = .ok (.bipush 32, 2) := by decide +kernel
theorem dX3_pushBlock_81 : decode cX3_pushBlock 81 = .ok (.aload_n 1, 1) := by decide +kernel
theorem dX3_pushBlock_82 : decode cX3_pushBlock 82 = .ok (.iload 8, 2) := by decide +kernel
theorem dX3_pushBlock_84 : decode cX3_pushBlock 84 = .ok (.iload_n 3, 1) := by decide +kernel
theorem dX3_pushBlock_85 : decode cX3_pushBlock 85 = .ok (.invokestatic 86, 3) := by decide +kernel
theorem dX3_pushBlock_88 : decode cX3_pushBlock 88 = .ok (.invokevirtual 66, 3) := by decide +kernel
theorem dX3_pushBlock_91 : decode cX3_pushBlock 91 = .ok (.iinc 7 1, 3) := by decide +kernel
theorem dX3_pushBlock_94 : decode cX3_pushBlock 94 = .ok (.goto (-41), 3) := by decide +kernel
theorem dX3_pushBlock_97 : decode cX3_pushBlock 97 = .ok (.return_, 1) := by decide +kernel
theorem dX3_lowerToLeast_0 : decode cX3_lowerToLeast 0 = .ok (.iload_n 1, 1) := by decide +kernel
theorem dX3_lowerToLeast_1 : decode cX3_lowerToLeast 1 = .ok (.ifCond .lt 15, 3) := by decide +kernel
theorem dX3_lowerToLeast_4 : decode cX3_lowerToLeast 4 = .ok (.iload_n 1, 1) := by decide +kernel
theorem dX3_lowerToLeast_5 : decode cX3_lowerToLeast 5 = .ok (.aload_n 0, 1) := by decide +kernel
theorem dX3_lowerToLeast_6 : decode cX3_lowerToLeast 6 = .ok (.arraylength, 1) := by decide +kernel
theorem dX3_lowerToLeast_7 : decode cX3_lowerToLeast 7 = .ok (.if_icmp .ge 9, 3) := by decide +kernel
theorem dX3_lowerToLeast_10 : decode cX3_lowerToLeast 10 = .ok (.aload_n 0, 1) := by decide +kernel
theorem dX3_lowerToLeast_11 : decode cX3_lowerToLeast 11 = .ok (.iload_n 1, 1) := by decide +kernel
theorem dX3_lowerToLeast_12 : decode cX3_lowerToLeast 12 = .ok (.laload, 1) := by decide +kernel
theorem dX3_lowerToLeast_13 : decode cX3_lowerToLeast 13 = .ok (.goto 4, 3) := by decide +kernel
theorem dX3_lowerToLeast_16 : decode cX3_lowerToLeast 16 = .ok (.lconst 0, 1) := by decide +kernel
theorem dX3_lowerToLeast_17 : decode cX3_lowerToLeast 17 = .ok (.lstore 4, 2) := by decide +kernel
theorem dX3_lowerToLeast_19 : decode cX3_lowerToLeast 19 = .ok (.iload_n 1, 1) := by decide +kernel
theorem dX3_lowerToLeast_20 : decode cX3_lowerToLeast 20 = .ok (.iconst 0, 1) := by decide +kernel
theorem dX3_lowerToLeast_21 : decode cX3_lowerToLeast 21 = .ok (.invokestatic 29, 3) := by decide +kernel
theorem dX3_lowerToLeast_24 : decode cX3_lowerToLeast 24 = .ok (.istore 6, 2) := by decide +kernel
theorem dX3_lowerToLeast_26 : decode cX3_lowerToLeast 26 = .ok (.iload 6, 2) := by decide +kernel
theorem dX3_lowerToLeast_28 : decode cX3_lowerToLeast 28 = .ok (.iload_n 2, 1) := by decide +kernel
theorem dX3_lowerToLeast_29 : decode cX3_lowerToLeast 29 = .ok (.if_icmp .ge 27, 3) := by decide +kernel
theorem dX3_lowerToLeast_32 : decode cX3_lowerToLeast 32 = .ok (.iload 6, 2) := by decide +kernel
theorem dX3_lowerToLeast_34 : decode cX3_lowerToLeast 34 = .ok (.aload_n 0, 1) := by decide +kernel
theorem dX3_lowerToLeast_35 : decode cX3_lowerToLeast 35 = .ok (.arraylength, 1) := by decide +kernel
theorem dX3_lowerToLeast_36 : decode cX3_lowerToLeast 36 = .ok (.if_icmp .ge 20, 3) := by decide +kernel
theorem dX3_lowerToLeast_39 : decode cX3_lowerToLeast 39 = .ok (.lload 4, 2) := by decide +kernel
theorem dX3_lowerToLeast_41 : decode cX3_lowerToLeast 41 = .ok (.aload_n 0, 1) := by decide +kernel
theorem dX3_lowerToLeast_42 : decode cX3_lowerToLeast 42 = .ok (.iload 6, 2) := by decide +kernel
theorem dX3_lowerToLeast_44 : decode cX3_lowerToLeast 44 = .ok (.laload, 1) := by decide +kernel
theorem dX3_lowerToLeast_45 : decode cX3_lowerToLeast 45 = .ok (.invokestatic 89, 3) := by decide +kernel
theorem dX3_lowerToLeast_48 : decode cX3_lowerToLeast 48 = .ok (.lstore 4, 2) := by decide +kernel
theorem dX3_lowerToLeast_50 : decode cX3_lowerToLeast 50 = .ok (.iinc 6 1, 3) := by decide +kernel
theorem dX3_lowerToLeast_53 : decode cX3_lowerToLeast 53 = .ok (.goto (-27), 3) := by decide +kernel
theorem dX3_lowerToLeast_56 : decode cX3_lowerToLeast 56 = .ok (.iload_n 1, 1) := by decide +kernel
theorem dX3_lowerToLeast_57 : decode cX3_lowerToLeast 57 = .ok (.iconst 0, 1) := by decide +kernel
theorem dX3_lowerToLeast_58 : decode cX3_lowerToLeast 58 = .ok (.invokestatic 29, 3) := by decide +kernel
theorem dX3_lowerToLeast_61 : decode cX3_lowerToLeast 61 = .ok (.istore 6, 2) := by decide +kernel
theorem dX3_lowerToLeast_63 : decode cX3_lowerToLeast 63 = .ok (.iload 6, 2) := by decide +kernel
theorem dX3_lowerToLeast_65 : decode cX3_lowerToLeast 65 = .ok (.iload_n 2, 1) := by decide +kernel
theorem dX3_lowerToLeast_66 : decode cX3_lowerToLeast 66 = .ok (.if_icmp .ge 44, 3) := by decide +kernel
theorem dX3_lowerToLeast_69 : decode cX3_lowerToLeast 69 = .ok (.iload 6, 2) := by decide +kernel
theorem dX3_lowerToLeast_71 : decode cX3_lowerToLeast 71 = .ok (.aload_n 0, 1) := by decide +kernel
theorem dX3_lowerToLeast_72 : decode cX3_lowerToLeast 72 = .ok (.arraylength, 1) := by decide +kernel
theorem dX3_lowerToLeast_73 : decode cX3_lowerToLeast 73 = .ok (.if_icmp .ge 37, 3) := by decide +kernel
theorem dX3_lowerToLeast_76 : decode cX3_lowerToLeast 76 = .ok (.aload_n 0, 1) := by decide +kernel
theorem dX3_lowerToLeast_77 : decode cX3_lowerToLeast 77 = .ok (.iload 6, 2) := by decide +kernel
theorem dX3_lowerToLeast_79 : decode cX3_lowerToLeast 79 = .ok (.laload, 1) := by decide +kernel
theorem dX3_lowerToLeast_80 : decode cX3_lowerToLeast 80 = .ok (.lload 4, 2) := by decide +kernel
theorem dX3_lowerToLeast_82 : decode cX3_lowerToLeast 82 = .ok (.lsub, 1) := by decide +kernel
theorem dX3_lowerToLeast_83 : decode cX3_lowerToLeast 83 = .ok (.lstore 7, 2) := by decide +kernel
theorem dX3_lowerToLeast_85 : decode cX3_lowerToLeast 85 = .ok (.aload_n 0, 1) := by decide +kernel
theorem dX3_lowerToLeast_86 : decode cX3_lowerToLeast 86 = .ok (.iload 6, 2) := by decide +kernel
theorem dX3_lowerToLeast_88 : decode cX3_lowerToLeast 88 = .ok (.iload_n 3, 1) := by decide +kernel
theorem dX3_lowerToLeast_89 : decode cX3_lowerToLeast 89 = .ok (.ifCond .eq 12, 3) := by decide +kernel
theorem dX3_lowerToLeast_92 : decode cX3_lowerToLeast 92 = .ok (.lload 7, 2) := by decide +kernel
theorem dX3_lowerToLeast_94 : decode cX3_lowerToLeast 94 = .ok (.ldc2_w 92, 3) := by decide +kernel
theorem dX3_lowerToLeast_97 : decode cX3_lowerToLeast 97 = .ok (.land, 1) := by decide +kernel
theorem dX3_lowerToLeast_98 : decode cX3_lowerToLeast 98 = .ok (.goto 5, 3) := by decide +kernel
theorem dX3_lowerToLeast_101 : decode cX3_lowerToLeast 101 = .ok (.lload 7, 2) := by decide +kernel
theorem dX3_lowerToLeast_103 : decode cX3_lowerToLeast 103 = .ok (.lastore, 1) := by decide +kernel
theorem dX3_lowerToLeast_104 : decode cX3_lowerToLeast 104 = .ok (.iinc 6 1, 3) := by decide +kernel
theorem dX3_lowerToLeast_107 : decode cX3_lowerToLeast 107 = .ok (.goto (-44), 3) := by decide +kernel
theorem dX3_lowerToLeast_110 : decode cX3_lowerToLeast 110 = .ok (.lload 4, 2) := by decide +kernel
theorem dX3_lowerToLeast_112 : decode cX3_lowerToLeast 112 = .ok (.lreturn, 1) := by decide +kernel
theorem dX3_partWidth_0 : decode cX3_partWidth 0 = .ok (.lconst 0, 1) := by decide +kernel
theorem dX3_partWidth_1 : decode cX3_partWidth 1 = .ok (.lstore_n 3, 1) := by decide +kernel
theorem dX3_partWidth_2 : decode cX3_partWidth 2 = .ok (.iload_n 1, 1) := by decide +kernel
theorem dX3_partWidth_3 : decode cX3_partWidth 3 = .ok (.iconst 0, 1) := by decide +kernel
theorem dX3_partWidth_4 : decode cX3_partWidth 4 = .ok (.invokestatic 29, 3) := by decide +kernel
theorem dX3_partWidth_7 : decode cX3_partWidth 7 = .ok (.istore 5, 2) := by decide +kernel
theorem dX3_partWidth_9 : decode cX3_partWidth 9 = .ok (.iload 5, 2) := by decide +kernel
theorem dX3_partWidth_11 : decode cX3_partWidth 11 = .ok (.iload_n 1, 1) := by decide +kernel
theorem dX3_partWidth_12 : decode cX3_partWidth 12 = .ok (.bipush 32, 2) := by decide +kernel
theorem dX3_partWidth_14 : decode cX3_partWidth 14 = .ok (.iadd, 1) := by decide +kernel
theorem dX3_partWidth_15 : decode cX3_partWidth 15 = .ok (.if_icmp .ge 29, 3) := by decide +kernel
theorem dX3_partWidth_18 : decode cX3_partWidth 18 = .ok (.iload 5, 2) := by decide +kernel
theorem dX3_partWidth_20 : decode cX3_partWidth 20 = .ok (.iload_n 2, 1) := by decide +kernel
theorem dX3_partWidth_21 : decode cX3_partWidth 21 = .ok (.if_icmp .ge 23, 3) := by decide +kernel
theorem dX3_partWidth_24 : decode cX3_partWidth 24 = .ok (.iload 5, 2) := by decide +kernel
theorem dX3_partWidth_26 : decode cX3_partWidth 26 = .ok (.aload_n 0, 1) := by decide +kernel
theorem dX3_partWidth_27 : decode cX3_partWidth 27 = .ok (.arraylength, 1) := by decide +kernel
theorem dX3_partWidth_28 : decode cX3_partWidth 28 = .ok (.if_icmp .ge 16, 3) := by decide +kernel
theorem dX3_partWidth_31 : decode cX3_partWidth 31 = .ok (.lload_n 3, 1) := by decide +kernel
theorem dX3_partWidth_32 : decode cX3_partWidth 32 = .ok (.aload_n 0, 1) := by decide +kernel
theorem dX3_partWidth_33 : decode cX3_partWidth 33 = .ok (.iload 5, 2) := by decide +kernel
theorem dX3_partWidth_35 : decode cX3_partWidth 35 = .ok (.laload, 1) := by decide +kernel
theorem dX3_partWidth_36 : decode cX3_partWidth 36 = .ok (.lor, 1) := by decide +kernel
theorem dX3_partWidth_37 : decode cX3_partWidth 37 = .ok (.lstore_n 3, 1) := by decide +kernel
theorem dX3_partWidth_38 : decode cX3_partWidth 38 = .ok (.iinc 5 1, 3) := by decide +kernel
theorem dX3_partWidth_41 : decode cX3_partWidth 41 = .ok (.goto (-32), 3) := by decide +kernel
theorem dX3_partWidth_44 : decode cX3_partWidth 44 = .ok (.lload_n 3, 1) := by decide +kernel
theorem dX3_partWidth_45 : decode cX3_partWidth 45 = .ok (.invokestatic 94, 3) := by decide +kernel
theorem dX3_partWidth_48 : decode cX3_partWidth 48 = .ok (.ireturn, 1) := by decide +kernel
