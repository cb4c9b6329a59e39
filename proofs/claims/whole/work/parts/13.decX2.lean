theorem dX2_init_0 : decode cX2_init 0 = .ok (.aload_n 0, 1) := by decide +kernel
theorem dX2_init_1 : decode cX2_init 1 = .ok (.invokespecial 3, 3) := by decide +kernel
theorem dX2_init_4 : decode cX2_init 4 = .ok (.aload_n 0, 1) := by decide +kernel
theorem dX2_init_5 : decode cX2_init 5 = .ok (.new 9, 3) := by decide +kernel
theorem dX2_init_8 : decode cX2_init 8 = .ok (.dup, 1) := by decide +kernel
theorem dX2_init_9 : decode cX2_init 9 = .ok (.sipush 12000, 3) := by decide +kernel
theorem dX2_init_12 : decode cX2_init 12 = .ok (.invokespecial 11, 3) := by decide +kernel
theorem dX2_init_15 : decode cX2_init 15 = .ok (.putfield 14, 3) := by decide +kernel
theorem dX2_init_18 : decode cX2_init 18 = .ok (.aload_n 0, 1) := by decide +kernel
theorem dX2_init_19 : decode cX2_init 19 = .ok (.new 9, 3) := by decide +kernel
theorem dX2_init_22 : decode cX2_init 22 = .ok (.dup, 1) := by decide +kernel
theorem dX2_init_23 : decode cX2_init 23 = .ok (.sipush 12000, 3) := by decide +kernel
theorem dX2_init_26 : decode cX2_init 26 = .ok (.invokespecial 11, 3) := by decide +kernel
theorem dX2_init_29 : decode cX2_init 29 = .ok (.putfield 20, 3) := by decide +kernel
theorem dX2_init_32 : decode cX2_init 32 = .ok (.aload_n 0, 1) := by decide +kernel
theorem dX2_init_33 : decode cX2_init 33 = .ok (.sipush 200, 3) := by decide +kernel
theorem dX2_init_36 : decode cX2_init 36 = .ok (.newarray .int, 2) := by decide +kernel
theorem dX2_init_38 : decode cX2_init 38 = .ok (.putfield 23, 3) := by decide +kernel
theorem dX2_init_41 : decode cX2_init 41 = .ok (.aload_n 0, 1) := by decide +kernel
theorem dX2_init_42 : decode cX2_init 42 = .ok (.sipush 200, 3) := by decide +kernel
theorem dX2_init_45 : decode cX2_init 45 = .ok (.newarray .int, 2) := by decide +kernel
theorem dX2_init_47 : decode cX2_init 47 = .ok (.putfield 27, 3) := by decide +kernel
theorem dX2_init_50 : decode cX2_init 50 = .ok (.aload_n 0, 1) := by decide +kernel
theorem dX2_init_51 : decode cX2_init 51 = .ok (.sipush 200, 3) := by decide +kernel
theorem dX2_init_54 : decode cX2_init 54 = .ok (.newarray .long, 2) := by decide +kernel
theorem dX2_init_56 : decode cX2_init 56 = .ok (.putfield 30, 3) := by decide +kernel
theorem dX2_init_59 : decode cX2_init 59 = .ok (.return_, 1) := by decide +kernel
theorem dX2_writePages_0 : decode cX2_writePages 0 = .ok (.aload_n 0, 1) := by decide +kernel
theorem dX2_writePages_1 : decode cX2_writePages 1 = .ok (.getfield 14, 3) := by decide +kernel
theorem dX2_writePages_4 : decode cX2_writePages 4 = .ok (.invokevirtual 34, 3) := by decide +kernel
theorem dX2_writePages_7 : decode cX2_writePages 7 = .ok (.iload_n 2, 1) := by decide +kernel
theorem dX2_writePages_8 : decode cX2_writePages 8 = .ok (.iconst 1, 1) := by decide +kernel
theorem dX2_writePages_9 : decode cX2_writePages 9 = .ok (.if_icmp .ne 15, 3) := by decide +kernel
theorem dX2_writePages_12 : decode cX2_writePages 12 = .ok (.aload_n 1, 1) := by decide +kernel
theorem dX2_writePages_13 : decode cX2_writePages 13 = .ok (.getfield 37, 3) := by decide +kernel
theorem dX2_writePages_16 : decode cX2_writePages 16 = .ok (.ifCond .le 8, 3) := by decide +kernel
theorem dX2_writePages_19 : decode cX2_writePages 19 = .ok (.aload_n 0, 1) := by decide +kernel
theorem dX2_writePages_20 : decode cX2_writePages 20 = .ok (.aload_n 1, 1) := by decide +kernel
theorem dX2_writePages_21 : decode cX2_writePages 21 = .ok (.invokevirtual 43, 3) := by decide +kernel
theorem dX2_writePages_24 : decode cX2_writePages 24 = .ok (.iload_n 3, 1) := by decide +kernel
theorem dX2_writePages_25 : decode cX2_writePages 25 = .ok (.iconst 1, 1) := by decide +kernel
theorem dX2_writePages_26 : decode cX2_writePages 26 = .ok (.invokestatic 47, 3) := by decide +kernel
theorem dX2_writePages_29 : decode cX2_writePages 29 = .ok (.istore 4, 2) := by decide +kernel
theorem dX2_writePages_31 : decode cX2_writePages 31 = .ok (.iconst 0, 1) := by decide +kernel
theorem dX2_writePages_32 : decode cX2_writePages 32 = .ok (.istore 5, 2) := by decide +kernel
theorem dX2_writePages_34 : decode cX2_writePages 34 = .ok (.iload 5, 2) := by decide +kernel
theorem dX2_writePages_36 : decode cX2_writePages 36 = .ok (.aload_n 1, 1) := by decide +kernel
theorem dX2_writePages_37 : decode cX2_writePages 37 = .ok (.getfield 37, 3) := by decide +kernel
theorem dX2_writePages_40 : decode cX2_writePages 40 = .ok (.if_icmp .ge 40, 3) := by decide +kernel
theorem dX2_writePages_43 : decode cX2_writePages 43 = .ok (.aload_n 0, 1) := by decide +kernel
theorem dX2_writePages_44 : decode cX2_writePages 44 = .ok (.aload_n 1, 1) := by decide +kernel
theorem dX2_writePages_45 : decode cX2_writePages 45 = .ok (.iload 5, 2) := by decide +kernel
theorem dX2_writePages_47 : decode cX2_writePages 47 = .ok (.iload 5, 2) := by decide +kernel
theorem dX2_writePages_49 : decode cX2_writePages 49 = .ok (.iload 4, 2) := by decide +kernel
theorem dX2_writePages_51 : decode cX2_writePages 51 = .ok (.iadd, 1) := by decide +kernel
theorem dX2_writePages_52 : decode cX2_writePages 52 = .ok (.aload_n 1, 1) := by decide +kernel
theorem dX2_writePages_53 : decode cX2_writePages 53 = .ok (.getfield 37, 3) := by decide +kernel
theorem dX2_writePages_56 : decode cX2_writePages 56 = .ok (.invokestatic 53, 3) := by decide +kernel
theorem dX2_writePages_59 : decode cX2_writePages 59 = .ok (.aload_n 1, 1) := by decide +kernel
theorem dX2_writePages_60 : decode cX2_writePages 60 = .ok (.getfield 56, 3) := by decide +kernel
theorem dX2_writePages_63 : decode cX2_writePages 63 = .ok (.iload_n 2, 1) := by decide +kernel
theorem dX2_writePages_64 : decode cX2_writePages 64 = .ok (.invokestatic 59, 3) := by decide +kernel
theorem dX2_writePages_67 : decode cX2_writePages 67 = .ok (.invokevirtual 62, 3) := by decide +kernel
theorem dX2_writePages_70 : decode cX2_writePages 70 = .ok (.iload 5, 2) := by decide +kernel
theorem dX2_writePages_72 : decode cX2_writePages 72 = .ok (.iload 4, 2) := by decide +kernel
theorem dX2_writePages_74 : decode cX2_writePages 74 = .ok (.iadd, 1) := by decide +kernel
theorem dX2_writePages_75 : decode cX2_writePages 75 = .ok (.istore 5, 2) := by decide +kernel
theorem dX2_writePages_77 : decode cX2_writePages 77 = .ok (.goto (-43), 3) := by decide +kernel
theorem dX2_writePages_80 : decode cX2_writePages 80 = .ok (.return_, 1) := by decide +kernel
theorem dX2_codeOf_0 : decode cX2_codeOf 0 = .ok (.iload_n 1, 1) := by decide +kernel
theorem dX2_codeOf_1 : decode cX2_codeOf 1 = .ok (.ifCond .ne 5, 3) := by decide +kernel
theorem dX2_codeOf_4 : decode cX2_codeOf 4 = .ok (.iconst 0, 1) := by decide +kernel
theorem dX2_codeOf_5 : decode cX2_codeOf 5 = .ok (.ireturn, 1) := by decide +kernel
theorem dX2_codeOf_6 : decode cX2_codeOf 6 = .ok (.iload_n 1, 1) := by decide +kernel
theorem dX2_codeOf_7 : decode cX2_codeOf 7 = .ok (.iconst 1, 1) := by decide +kernel
theorem dX2_codeOf_8 : decode cX2_codeOf 8 = .ok (.if_icmp .ne 6, 3) := by decide +kernel
theorem dX2_codeOf_11 : decode cX2_codeOf 11 = .ok (.bipush 8, 2) := by decide +kernel
theorem dX2_codeOf_13 : decode cX2_codeOf 13 = .ok (.ireturn, 1) := by decide +kernel
theorem dX2_codeOf_14 : decode cX2_codeOf 14 = .ok (.iload_n 0, 1) := by decide +kernel
theorem dX2_codeOf_15 : decode cX2_codeOf 15 = .ok (.iconst 2, 1) := by decide +kernel
theorem dX2_codeOf_16 : decode cX2_codeOf 16 = .ok (.if_icmp .ne 8, 3) := by decide +kernel
theorem dX2_codeOf_19 : decode cX2_codeOf 19 = .ok (.bipush 6, 2) := by decide +kernel
theorem dX2_codeOf_21 : decode cX2_codeOf 21 = .ok (.goto 13, 3) := by decide +kernel
theorem dX2_codeOf_24 : decode cX2_codeOf 24 = .ok (.iload_n 0, 1) := by decide +kernel
theorem dX2_codeOf_25 : decode cX2_codeOf 25 = .ok (.iconst 3, 1) := by decide +kernel
theorem dX2_codeOf_26 : decode cX2_codeOf 26 = .ok (.if_icmp .ne 7, 3) := by decide +kernel
theorem dX2_codeOf_29 : decode cX2_codeOf 29 = .ok (.iconst 3, 1) := by decide +kernel
theorem dX2_codeOf_30 : decode cX2_codeOf 30 = .ok (.goto 4, 3) := by decide +kernel
theorem dX2_codeOf_33 : decode cX2_codeOf 33 = .ok (.iconst 5, 1) := by decide +kernel
theorem dX2_codeOf_34 : decode cX2_codeOf 34 = .ok (.ireturn, 1) := by decide +kernel
theorem dX2_dictionaryPage_0 : decode cX2_dictionaryPage 0 = .ok (.aload_n 0, 1) := by decide +kernel
theorem dX2_dictionaryPage_1 : decode cX2_dictionaryPage 1 = .ok (.getfield 20, 3) := by decide +kernel
theorem dX2_dictionaryPage_4 : decode cX2_dictionaryPage 4 = .ok (.invokevirtual 34, 3) := by decide +kernel
theorem dX2_dictionaryPage_7 : decode cX2_dictionaryPage 7 = .ok (.aload_n 0, 1) := by decide +kernel
theorem dX2_dictionaryPage_8 : decode cX2_dictionaryPage 8 = .ok (.aload_n 1, 1) := by decide +kernel
theorem dX2_dictionaryPage_9 : decode cX2_dictionaryPage 9 = .ok (.invokevirtual 66, 3) := by decide +kernel
theorem dX2_dictionaryPage_12 : decode cX2_dictionaryPage 12 = .ok (.aload_n 0, 1) := by decide +kernel
theorem dX2_dictionaryPage_13 : decode cX2_dictionaryPage 13 = .ok (.aload_n 1, 1) := by decide +kernel
theorem dX2_dictionaryPage_14 : decode cX2_dictionaryPage 14 = .ok (.invokevirtual 69, 3) := by decide +kernel
theorem dX2_dictionaryPage_17 : decode cX2_dictionaryPage 17 = .ok (.aload_n 0, 1) := by decide +kernel
theorem dX2_dictionaryPage_18 : decode cX2_dictionaryPage 18 = .ok (.iconst 2, 1) := by decide +kernel
theorem dX2_dictionaryPage_19 : decode cX2_dictionaryPage 19 = .ok (.aload_n 0, 1) := by decide +kernel
theorem dX2_dictionaryPage_20 : decode cX2_dictionaryPage 20 = .ok (.getfield 72, 3) := by decide +kernel
theorem dX2_dictionaryPage_23 : decode cX2_dictionaryPage 23 = .ok (.iconst 0, 1) := by decide +kernel
theorem dX2_dictionaryPage_24 : decode cX2_dictionaryPage 24 = .ok (.invokevirtual 75, 3) := by decide +kernel
theorem dX2_dictionaryPage_27 : decode cX2_dictionaryPage 27 = .ok (.aload_n 0, 1) := by decide +kernel
theorem dX2_dictionaryPage_28 : decode cX2_dictionaryPage 28 = .ok (.getfield 14, 3) := by decide +kernel
theorem dX2_dictionaryPage_31 : decode cX2_dictionaryPage 31 = .ok (.aload_n 0, 1) := by decide +kernel
theorem dX2_dictionaryPage_32 : decode cX2_dictionaryPage 32 = .ok (.getfield 20, 3) := by decide +kernel
theorem dX2_dictionaryPage_35 : decode cX2_dictionaryPage 35 = .ok (.invokevirtual 79, 3) := by decide +kernel
theorem dX2_dictionaryPage_38 : decode cX2_dictionaryPage 38 = .ok (.return_, 1) := by decide +kernel
theorem dX2_dataPage_0 : decode cX2_dataPage 0 = .ok (.aload_n 0, 1) := by decide +kernel
theorem dX2_dataPage_1 : decode cX2_dataPage 1 = .ok (.getfield 20, 3) := by decide +kernel
theorem dX2_dataPage_4 : decode cX2_dataPage 4 = .ok (.invokevirtual 34, 3) := by decide +kernel
theorem dX2_dataPage_7 : decode cX2_dataPage 7 = .ok (.aload_n 1, 1) := by decide +kernel
theorem dX2_dataPage_8 : decode cX2_dataPage 8 = .ok (.getfield 83, 3) := by decide +kernel
theorem dX2_dataPage_11 : decode cX2_dataPage 11 = .ok (.ifCond .eq 17, 3) := by decide +kernel
theorem dX2_dataPage_14 : decode cX2_dataPage 14 = .ok (.aload_n 0, 1) := by decide +kernel
theorem dX2_dataPage_15 : decode cX2_dataPage 15 = .ok (.aload_n 1, 1) := by decide +kernel
theorem dX2_dataPage_16 : decode cX2_dataPage 16 = .ok (.iload_n 2, 1) := by decide +kernel
theorem dX2_dataPage_17 : decode cX2_dataPage 17 = .ok (.iload_n 3, 1) := by decide +kernel
theorem dX2_dataPage_18 : decode cX2_dataPage 18 = .ok (.invokevirtual 87, 3) := by decide +kernel
theorem dX2_dataPage_21 : decode cX2_dataPage 21 = .ok (.aload_n 0, 1) := by decide +kernel
theorem dX2_dataPage_22 : decode cX2_dataPage 22 = .ok (.iload_n 3, 1) := by decide +kernel
theorem dX2_dataPage_23 : decode cX2_dataPage 23 = .ok (.iload_n 2, 1) := by decide +kernel
theorem dX2_dataPage_24 : decode cX2_dataPage 24 = .ok (.isub, 1) := by decide +kernel
theorem dX2_dataPage_25 : decode cX2_dataPage 25 = .ok (.invokevirtual 91, 3) := by decide +kernel
theorem dX2_dataPage_28 : decode cX2_dataPage 28 = .ok (.aload_n 0, 1) := by decide +kernel
theorem dX2_dataPage_29 : decode cX2_dataPage 29 = .ok (.aload_n 1, 1) := by decide +kernel
theorem dX2_dataPage_30 : decode cX2_dataPage 30 = .ok (.iload_n 2, 1) := by decide +kernel
theorem dX2_dataPage_31 : decode cX2_dataPage 31 = .ok (.iload_n 3, 1) := by decide +kernel
theorem dX2_dataPage_32 : decode cX2_dataPage 32 = .ok (.invokevirtual 94, 3) := by decide +kernel
theorem dX2_dataPage_35 : decode cX2_dataPage 35 = .ok (.iload 4, 2) := by decide +kernel
theorem dX2_dataPage_37 : decode cX2_dataPage 37 = .ok (.tableswitch 131 0 6 #[43, 131, 131, 115, 131, 51, 86], 43) := by decide +kernel
theorem dX2_dataPage_80 : decode cX2_dataPage 80 = .ok (.aload_n 0, 1) := by decide +kernel
theorem dX2_dataPage_81 : decode cX2_dataPage 81 = .ok (.aload_n 1, 1) := by decide +kernel
theorem dX2_dataPage_82 : decode cX2_dataPage 82 = .ok (.invokevirtual 69, 3) := by decide +kernel
theorem dX2_dataPage_85 : decode cX2_dataPage 85 = .ok (.goto 87, 3) := by decide +kernel
theorem dX2_dataPage_88 : decode cX2_dataPage 88 = .ok (.aload_n 0, 1) := by decide +kernel
theorem dX2_dataPage_89 : decode cX2_dataPage 89 = .ok (.aload_n 1, 1) := by decide +kernel
theorem dX2_dataPage_90 : decode cX2_dataPage 90 = .ok (.invokevirtual 97, 3) := by decide +kernel
theorem dX2_dataPage_93 : decode cX2_dataPage 93 = .ok (.aload_n 0, 1) := by decide +kernel
theorem dX2_dataPage_94 : decode cX2_dataPage 94 = .ok (.getfield 20, 3) := by decide +kernel
theorem dX2_dataPage_97 : decode cX2_dataPage 97 = .ok (.aload_n 0, 1) := by decide +kernel
theorem dX2_dataPage_98 : decode cX2_dataPage 98 = .ok (.getfield 30, 3) := by decide +kernel
theorem dX2_dataPage_101 : decode cX2_dataPage 101 = .ok (.aload_n 0, 1) := by decide +kernel
theorem dX2_dataPage_102 : decode cX2_dataPage 102 = .ok (.getfield 100, 3) := by decide +kernel
theorem dX2_dataPage_105 : decode cX2_dataPage 105 = .ok (.aload_n 1, 1) := by decide +kernel
theorem dX2_dataPage_106 : decode cX2_dataPage 106 = .ok (.getfield 56, 3) := by decide +kernel
theorem dX2_dataPage_109 : decode cX2_dataPage 109 = .ok (.ifCond .ne 7, 3) := by decide +kernel
theorem dX2_dataPage_112 : decode cX2_dataPage 112 = .ok (.iconst 1, 1) := by decide +kernel
theorem dX2_dataPage_113 : decode cX2_dataPage 113 = .ok (.goto 4, 3) := by decide +kernel
theorem dX2_dataPage_116 : decode cX2_dataPage 116 = .ok (.iconst 0, 1) := by decide +kernel
theorem dX2_dataPage_117 : decode cX2_dataPage 117 = .ok (.invokevirtual 103, 3) := by decide +kernel
theorem dX2_dataPage_120 : decode cX2_dataPage 120 = .ok (.goto 52, 3) := by decide +kernel
theorem dX2_dataPage_123 : decode cX2_dataPage 123 = .ok (.aload_n 0, 1) := by decide +kernel
theorem dX2_dataPage_124 : decode cX2_dataPage 124 = .ok (.aload_n 1, 1) := by decide +kernel
theorem dX2_dataPage_125 : decode cX2_dataPage 125 = .ok (.invokevirtual 97, 3) := by decide +kernel
theorem dX2_dataPage_128 : decode cX2_dataPage 128 = .ok (.aload_n 0, 1) := by decide +kernel
theorem dX2_dataPage_129 : decode cX2_dataPage 129 = .ok (.getfield 20, 3) := by decide +kernel
theorem dX2_dataPage_132 : decode cX2_dataPage 132 = .ok (.aload_n 0, 1) := by decide +kernel
theorem dX2_dataPage_133 : decode cX2_dataPage 133 = .ok (.getfield 30, 3) := by decide +kernel
theorem dX2_dataPage_136 : decode cX2_dataPage 136 = .ok (.aload_n 0, 1) := by decide +kernel
theorem dX2_dataPage_137 : decode cX2_dataPage 137 = .ok (.getfield 100, 3) := by decide +kernel
theorem dX2_dataPage_140 : decode cX2_dataPage 140 = .ok (.iconst 1, 1) := by decide +kernel
theorem dX2_dataPage_141 : decode cX2_dataPage 141 = .ok (.invokevirtual 103, 3) := by decide +kernel
theorem dX2_dataPage_144 : decode cX2_dataPage 144 = .ok (.aload_n 0, 1) := by decide +kernel
theorem dX2_dataPage_145 : decode cX2_dataPage 145 = .ok (.aload_n 1, 1) := by decide +kernel
theorem dX2_dataPage_146 : decode cX2_dataPage 146 = .ok (.invokevirtual 107, 3) := by decide +kernel
theorem dX2_dataPage_149 : decode cX2_dataPage 149 = .ok (.goto 23, 3) := by decide +kernel
theorem dX2_dataPage_152 : decode cX2_dataPage 152 = .ok (.aload_n 0, 1) := by decide +kernel
theorem dX2_dataPage_153 : decode cX2_dataPage 153 = .ok (.aload_n 1, 1) := by decide +kernel
theorem dX2_dataPage_154 : decode cX2_dataPage 154 = .ok (.invokevirtual 97, 3) := by decide +kernel
theorem dX2_dataPage_157 : decode cX2_dataPage 157 = .ok (.aload_n 0, 1) := by decide +kernel
theorem dX2_dataPage_158 : decode cX2_dataPage 158 = .ok (.aload_n 0, 1) := by decide +kernel
theorem dX2_dataPage_159 : decode cX2_dataPage 159 = .ok (.getfield 100, 3) := by decide +kernel
theorem dX2_dataPage_162 : decode cX2_dataPage 162 = .ok (.invokevirtual 91, 3) := by decide +kernel
theorem dX2_dataPage_165 : decode cX2_dataPage 165 = .ok (.goto 7, 3) := by decide +kernel
theorem dX2_dataPage_168 : decode cX2_dataPage 168 = .ok (.aload_n 0, 1) := by decide +kernel
theorem dX2_dataPage_169 : decode cX2_dataPage 169 = .ok (.invokevirtual 110, 3) := by decide +kernel
theorem dX2_dataPage_172 : decode cX2_dataPage 172 = .ok (.aload_n 0, 1) := by decide +kernel
theorem dX2_dataPage_173 : decode cX2_dataPage 173 = .ok (.iconst 0, 1) := by decide +kernel
theorem dX2_dataPage_174 : decode cX2_dataPage 174 = .ok (.iload_n 3, 1) := by decide +kernel
theorem dX2_dataPage_175 : decode cX2_dataPage 175 = .ok (.iload_n 2, 1) := by decide +kernel
theorem dX2_dataPage_176 : decode cX2_dataPage 176 = .ok (.isub, 1) := by decide +kernel
theorem dX2_dataPage_177 : decode cX2_dataPage 177 = .ok (.iload 4, 2) := by decide +kernel
theorem dX2_dataPage_179 : decode cX2_dataPage 179 = .ok (.invokevirtual 75, 3) := by decide +kernel
theorem dX2_dataPage_182 : decode cX2_dataPage 182 = .ok (.aload_n 0, 1) := by decide +kernel
theorem dX2_dataPage_183 : decode cX2_dataPage 183 = .ok (.getfield 14, 3) := by decide +kernel
theorem dX2_dataPage_186 : decode cX2_dataPage 186 = .ok (.aload_n 0, 1) := by decide +kernel
theorem dX2_dataPage_187 : decode cX2_dataPage 187 = .ok (.getfield 20, 3) := by decide +kernel
theorem dX2_dataPage_190 : decode cX2_dataPage 190 = .ok (.invokevirtual 79, 3) := by decide +kernel
theorem dX2_dataPage_193 : decode cX2_dataPage 193 = .ok (.return_, 1) := by decide +kernel
theorem dX2_pushHead_0 : decode cX2_pushHead 0 = .ok (.aload_n 0, 1) := by decide +kernel
theorem dX2_pushHead_1 : decode cX2_pushHead 1 = .ok (.getfield 14, 3) := by decide +kernel
theorem dX2_pushHead_4 : decode cX2_pushHead 4 = .ok (.bipush 21, 2) := by decide +kernel
theorem dX2_pushHead_6 : decode cX2_pushHead 6 = .ok (.invokevirtual 113, 3) := by decide +kernel
theorem dX2_pushHead_9 : decode cX2_pushHead 9 = .ok (.aload_n 0, 1) := by decide +kernel
theorem dX2_pushHead_10 : decode cX2_pushHead 10 = .ok (.getfield 14, 3) := by decide +kernel
theorem dX2_pushHead_13 : decode cX2_pushHead 13 = .ok (.iload_n 1, 1) := by decide +kernel
theorem dX2_pushHead_14 : decode cX2_pushHead 14 = .ok (.i2l, 1) := by decide +kernel
theorem dX2_pushHead_15 : decode cX2_pushHead 15 = .ok (.invokestatic 116, 3) := by decide +kernel
theorem dX2_pushHead_18 : decode cX2_pushHead 18 = .ok (.invokevirtual 120, 3) := by decide +kernel
theorem dX2_pushHead_21 : decode cX2_pushHead 21 = .ok (.aload_n 0, 1) := by decide +kernel
theorem dX2_pushHead_22 : decode cX2_pushHead 22 = .ok (.getfield 14, 3) := by decide +kernel
theorem dX2_pushHead_25 : decode cX2_pushHead 25 = .ok (.bipush 21, 2) := by decide +kernel
theorem dX2_pushHead_27 : decode cX2_pushHead 27 = .ok (.invokevirtual 113, 3) := by decide +kernel
theorem dX2_pushHead_30 : decode cX2_pushHead 30 = .ok (.aload_n 0, 1) := by decide +kernel
theorem dX2_pushHead_31 : decode cX2_pushHead 31 = .ok (.getfield 14, 3) := by decide +kernel
theorem dX2_pushHead_34 : decode cX2_pushHead 34 = .ok (.aload_n 0, 1) := by decide +kernel
theorem dX2_pushHead_35 : decode cX2_pushHead 35 = .ok (.getfield 20, 3) := by decide +kernel
theorem dX2_pushHead_38 : decode cX2_pushHead 38 = .ok (.getfield 124, 3) := by decide +kernel
theorem dX2_pushHead_41 : decode cX2_pushHead 41 = .ok (.i2l, 1) := by decide +kernel
theorem dX2_pushHead_42 : decode cX2_pushHead 42 = .ok (.invokestatic 116, 3) := by decide +kernel
theorem dX2_pushHead_45 : decode cX2_pushHead 45 = .ok (.invokevirtual 120, 3) := by decide +kernel
theorem dX2_pushHead_48 : decode cX2_pushHead 48 = .ok (.aload_n 0, 1) := by decide +kernel
theorem dX2_pushHead_49 : decode cX2_pushHead 49 = .ok (.getfield 14, 3) := by decide +kernel
theorem dX2_pushHead_52 : decode cX2_pushHead 52 = .ok (.bipush 21, 2) := by decide +kernel
theorem dX2_pushHead_54 : decode cX2_pushHead 54 = .ok (.invokevirtual 113, 3) := by decide +kernel
theorem dX2_pushHead_57 : decode cX2_pushHead 57 = .ok (.aload_n 0, 1) := by decide +kernel
theorem dX2_pushHead_58 : decode cX2_pushHead 58 = .ok (.getfield 14, 3) := by decide +kernel
theorem dX2_pushHead_61 : decode cX2_pushHead 61 = .ok (.aload_n 0, 1) := by decide +kernel
theorem dX2_pushHead_62 : decode cX2_pushHead 62 = .ok (.getfield 20, 3) := by decide +kernel
theorem dX2_pushHead_65 : decode cX2_pushHead 65 = .ok (.getfield 124, 3) := by decide +kernel
theorem dX2_pushHead_68 : decode cX2_pushHead 68 = .ok (.i2l, 1) := by decide +kernel
theorem dX2_pushHead_69 : decode cX2_pushHead 69 = .ok (.invokestatic 116, 3) := by decide +kernel
theorem dX2_pushHead_72 : decode cX2_pushHead 72 = .ok (.invokevirtual 120, 3) := by decide +kernel
theorem dX2_pushHead_75 : decode cX2_pushHead 75 = .ok (.aload_n 0, 1) := by decide +kernel
theorem dX2_pushHead_76 : decode cX2_pushHead 76 = .ok (.getfield 14, 3) := by decide +kernel
theorem dX2_pushHead_79 : decode cX2_pushHead 79 = .ok (.iload_n 1, 1) := by decide +kernel
theorem dX2_pushHead_80 : decode cX2_pushHead 80 = .ok (.ifCond .ne 8, 3) := by decide +kernel
theorem dX2_pushHead_83 : decode cX2_pushHead 83 = .ok (.bipush 44, 2) := by decide +kernel
theorem dX2_pushHead_85 : decode cX2_pushHead 85 = .ok (.goto 5, 3) := by decide +kernel
theorem dX2_pushHead_88 : decode cX2_pushHead 88 = .ok (.bipush 76, 2) := by decide +kernel
theorem dX2_pushHead_90 : decode cX2_pushHead 90 = .ok (.invokevirtual 113, 3) := by decide +kernel
theorem dX2_pushHead_93 : decode cX2_pushHead 93 = .ok (.aload_n 0, 1) := by decide +kernel
theorem dX2_pushHead_94 : decode cX2_pushHead 94 = .ok (.getfield 14, 3) := by decide +kernel
theorem dX2_pushHead_97 : decode cX2_pushHead 97 = .ok (.bipush 21, 2) := by decide +kernel
theorem dX2_pushHead_99 : decode cX2_pushHead 99 = .ok (.invokevirtual 113, 3) := by decide +kernel
theorem dX2_pushHead_102 : decode cX2_pushHead 102 = .ok (.aload_n 0, 1) := by decide +kernel
theorem dX2_pushHead_103 : decode cX2_pushHead 103 = .ok (.getfield 14, 3) := by decide +kernel
theorem dX2_pushHead_106 : decode cX2_pushHead 106 = .ok (.iload_n 2, 1) := by decide +kernel
theorem dX2_pushHead_107 : decode cX2_pushHead 107 = .ok (.i2l, 1) := by decide +kernel
theorem dX2_pushHead_108 : decode cX2_pushHead 108 = .ok (.invokestatic 116, 3) := by decide +kernel
theorem dX2_pushHead_111 : decode cX2_pushHead 111 = .ok (.invokevirtual 120, 3) := by decide +kernel
theorem dX2_pushHead_114 : decode cX2_pushHead 114 = .ok (.aload_n 0, 1) := by decide +kernel
theorem dX2_pushHead_115 : decode cX2_pushHead 115 = .ok (.getfield 14, 3) := by decide +kernel
theorem dX2_pushHead_118 : decode cX2_pushHead 118 = .ok (.bipush 21, 2) := by decide +kernel
theorem dX2_pushHead_120 : decode cX2_pushHead 120 = .ok (.invokevirtual 113, 3) := by decide +kernel
theorem dX2_pushHead_123 : decode cX2_pushHead 123 = .ok (.aload_n 0, 1) := by decide +kernel
theorem dX2_pushHead_124 : decode cX2_pushHead 124 = .ok (.getfield 14, 3) := by decide +kernel
theorem dX2_pushHead_127 : decode cX2_pushHead 127 = .ok (.iload_n 3, 1) := by decide +kernel
theorem dX2_pushHead_128 : decode cX2_pushHead 128 = .ok (.i2l, 1) := by decide +kernel
theorem dX2_pushHead_129 : decode cX2_pushHead 129 = .ok (.invokestatic 116, 3) := by decide +kernel
theorem dX2_pushHead_132 : decode cX2_pushHead 132 = .ok (.invokevirtual 120, 3) := by decide +kernel
theorem dX2_pushHead_135 : decode cX2_pushHead 135 = .ok (.aload_n 0, 1) := by decide +kernel
theorem dX2_pushHead_136 : decode cX2_pushHead 136 = .ok (.getfield 14, 3) := by decide +kernel
theorem dX2_pushHead_139 : decode cX2_pushHead 139 = .ok (.iconst 0, 1) := by decide +kernel
theorem dX2_pushHead_140 : decode cX2_pushHead 140 = .ok (.invokevirtual 113, 3) := by decide +kernel
theorem dX2_pushHead_143 : decode cX2_pushHead 143 = .ok (.aload_n 0, 1) := by decide +kernel
theorem dX2_pushHead_144 : decode cX2_pushHead 144 = .ok (.getfield 14, 3) := by decide +kernel
theorem dX2_pushHead_147 : decode cX2_pushHead 147 = .ok (.iconst 0, 1) := by decide +kernel
theorem dX2_pushHead_148 : decode cX2_pushHead 148 = .ok (.invokevirtual 113, 3) := by decide +kernel
theorem dX2_pushHead_151 : decode cX2_pushHead 151 = .ok (.return_, 1) := by decide +kernel
theorem dX2_chooseThere_0 : decode cX2_chooseThere 0 = .ok (.aload_n 0, 1) := by decide +kernel
theorem dX2_chooseThere_1 : decode cX2_chooseThere 1 = .ok (.iconst 0, 1) := by decide +kernel
theorem dX2_chooseThere_2 : decode cX2_chooseThere 2 = .ok (.putfield 100, 3) := by decide +kernel
theorem dX2_chooseThere_5 : decode cX2_chooseThere 5 = .ok (.iload_n 2, 1) := by decide +kernel
theorem dX2_chooseThere_6 : decode cX2_chooseThere 6 = .ok (.istore 4, 2) := by decide +kernel
theorem dX2_chooseThere_8 : decode cX2_chooseThere 8 = .ok (.iload 4, 2) := by decide +kernel
theorem dX2_chooseThere_10 : decode cX2_chooseThere 10 = .ok (.iload_n 3, 1) := by decide +kernel
theorem dX2_chooseThere_11 : decode cX2_chooseThere 11 = .ok (.if_icmp .ge 58, 3) := by decide +kernel
theorem dX2_chooseThere_14 : decode cX2_chooseThere 14 = .ok (.aload_n 1, 1) := by decide +kernel
theorem dX2_chooseThere_15 : decode cX2_chooseThere 15 = .ok (.iload 4, 2) := by decide +kernel
theorem dX2_chooseThere_17 : decode cX2_chooseThere 17 = .ok (.invokevirtual 125, 3) := by decide +kernel
theorem dX2_chooseThere_20 : decode cX2_chooseThere 20 = .ok (.ifCond .eq 43, 3) := by decide +kernel
theorem dX2_chooseThere_23 : decode cX2_chooseThere 23 = .ok (.aload_n 0, 1) := by decide +kernel
theorem dX2_chooseThere_24 : decode cX2_chooseThere 24 = .ok (.getfield 100, 3) := by decide +kernel
theorem dX2_chooseThere_27 : decode cX2_chooseThere 27 = .ok (.ifCond .lt 36, 3) := by decide +kernel
theorem dX2_chooseThere_30 : decode cX2_chooseThere 30 = .ok (.aload_n 0, 1) := by decide +kernel
theorem dX2_chooseThere_31 : decode cX2_chooseThere 31 = .ok (.getfield 100, 3) := by decide +kernel
theorem dX2_chooseThere_34 : decode cX2_chooseThere 34 = .ok (.aload_n 0, 1) := by decide +kernel
theorem dX2_chooseThere_35 : decode cX2_chooseThere 35 = .ok (.getfield 23, 3) := by decide +kernel
theorem dX2_chooseThere_38 : decode cX2_chooseThere 38 = .ok (.arraylength, 1) := by decide +kernel
theorem dX2_chooseThere_39 : decode cX2_chooseThere 39 = .ok (.if_icmp .ge 24, 3) := by decide +kernel
theorem dX2_chooseThere_42 : decode cX2_chooseThere 42 = .ok (.aload_n 0, 1) := by decide +kernel
theorem dX2_chooseThere_43 : decode cX2_chooseThere 43 = .ok (.getfield 23, 3) := by decide +kernel
theorem dX2_chooseThere_46 : decode cX2_chooseThere 46 = .ok (.aload_n 0, 1) := by decide +kernel
theorem dX2_chooseThere_47 : decode cX2_chooseThere 47 = .ok (.getfield 100, 3) := by decide +kernel
theorem dX2_chooseThere_50 : decode cX2_chooseThere 50 = .ok (.iload 4, 2) := by decide +kernel
theorem dX2_chooseThere_52 : decode cX2_chooseThere 52 = .ok (.iastore, 1) := by decide +kernel
theorem dX2_chooseThere_53 : decode cX2_chooseThere 53 = .ok (.aload_n 0, 1) := by decide +kernel
theorem dX2_chooseThere_54 : decode cX2_chooseThere 54 = .ok (.dup, 1) := by decide +kernel
theorem dX2_chooseThere_55 : decode cX2_chooseThere 55 = .ok (.getfield 100, 3) := by decide +kernel
theorem dX2_chooseThere_58 : decode cX2_chooseThere 58 = .ok (.iconst 1, 1) := by decide +kernel
theorem dX2_chooseThere_59 : decode cX2_chooseThere 59 = .ok (.iadd, 1) := by decide +kernel
theorem dX2_chooseThere_60 : decode cX2_chooseThere 60 = .ok (.putfield 100, 3) := by decide +kernel
theorem dX2_chooseThere_63 : decode cX2_chooseThere 63 = .ok (.iinc 4 1, 3) := by decide +kernel
theorem dX2_chooseThere_66 : decode cX2_chooseThere 66 = .ok (.goto (-58), 3) := by decide +kernel
theorem dX2_chooseThere_69 : decode cX2_chooseThere 69 = .ok (.return_, 1) := by decide +kernel
theorem dX2_chooseUnlike_0 : decode cX2_chooseUnlike 0 = .ok (.aload_n 0, 1) := by decide +kernel
theorem dX2_chooseUnlike_1 : decode cX2_chooseUnlike 1 = .ok (.iconst 0, 1) := by decide +kernel
theorem dX2_chooseUnlike_2 : decode cX2_chooseUnlike 2 = .ok (.putfield 100, 3) := by decide +kernel
theorem dX2_chooseUnlike_5 : decode cX2_chooseUnlike 5 = .ok (.iconst 0, 1) := by decide +kernel
theorem dX2_chooseUnlike_6 : decode cX2_chooseUnlike 6 = .ok (.istore_n 2, 1) := by decide +kernel
theorem dX2_chooseUnlike_7 : decode cX2_chooseUnlike 7 = .ok (.iload_n 2, 1) := by decide +kernel
theorem dX2_chooseUnlike_8 : decode cX2_chooseUnlike 8 = .ok (.aload_n 1, 1) := by decide +kernel
theorem dX2_chooseUnlike_9 : decode cX2_chooseUnlike 9 = .ok (.getfield 37, 3) := by decide +kernel
theorem dX2_chooseUnlike_12 : decode cX2_chooseUnlike 12 = .ok (.if_icmp .ge 121, 3) := by decide +kernel
theorem dX2_chooseUnlike_15 : decode cX2_chooseUnlike 15 = .ok (.iload_n 2, 1) := by decide +kernel
theorem dX2_chooseUnlike_16 : decode cX2_chooseUnlike 16 = .ok (.aload_n 0, 1) := by decide +kernel
theorem dX2_chooseUnlike_17 : decode cX2_chooseUnlike 17 = .ok (.getfield 27, 3) := by decide +kernel
theorem dX2_chooseUnlike_20 : decode cX2_chooseUnlike 20 = .ok (.arraylength, 1) := by decide +kernel
theorem dX2_chooseUnlike_21 : decode cX2_chooseUnlike 21 = .ok (.if_icmp .ge 112, 3) := by decide +kernel
theorem dX2_chooseUnlike_24 : decode cX2_chooseUnlike 24 = .ok (.aload_n 0, 1) := by decide +kernel
theorem dX2_chooseUnlike_25 : decode cX2_chooseUnlike 25 = .ok (.getfield 27, 3) := by decide +kernel
theorem dX2_chooseUnlike_28 : decode cX2_chooseUnlike 28 = .ok (.iload_n 2, 1) := by decide +kernel
theorem dX2_chooseUnlike_29 : decode cX2_chooseUnlike 29 = .ok (.iconst 0, 1) := by decide +kernel
theorem dX2_chooseUnlike_30 : decode cX2_chooseUnlike 30 = .ok (.iastore, 1) := by decide +kernel
theorem dX2_chooseUnlike_31 : decode cX2_chooseUnlike 31 = .ok (.aload_n 1, 1) := by decide +kernel
theorem dX2_chooseUnlike_32 : decode cX2_chooseUnlike 32 = .ok (.iload_n 2, 1) := by decide +kernel
theorem dX2_chooseUnlike_33 : decode cX2_chooseUnlike 33 = .ok (.invokevirtual 125, 3) := by decide +kernel
theorem dX2_chooseUnlike_36 : decode cX2_chooseUnlike 36 = .ok (.ifCond .eq 11, 3) := by decide +kernel
theorem dX2_chooseUnlike_39 : decode cX2_chooseUnlike 39 = .ok (.aload_n 1, 1) := by decide +kernel
theorem dX2_chooseUnlike_40 : decode cX2_chooseUnlike 40 = .ok (.iload_n 2, 1) := by decide +kernel
theorem dX2_chooseUnlike_41 : decode cX2_chooseUnlike 41 = .ok (.invokevirtual 129, 3) := by decide +kernel
theorem dX2_chooseUnlike_44 : decode cX2_chooseUnlike 44 = .ok (.goto 4, 3) := by decide +kernel
theorem dX2_chooseUnlike_47 : decode cX2_chooseUnlike 47 = .ok (.iconst (-1), 1) := by decide +kernel
theorem dX2_chooseUnlike_48 : decode cX2_chooseUnlike 48 = .ok (.istore_n 3, 1) := by decide +kernel
theorem dX2_chooseUnlike_49 : decode cX2_chooseUnlike 49 = .ok (.iload_n 3, 1) := by decide +kernel
theorem dX2_chooseUnlike_50 : decode cX2_chooseUnlike 50 = .ok (.ifCond .lt 23, 3) := by decide +kernel
theorem dX2_chooseUnlike_53 : decode cX2_chooseUnlike 53 = .ok (.iload_n 3, 1) := by decide +kernel
theorem dX2_chooseUnlike_54 : decode cX2_chooseUnlike 54 = .ok (.iload_n 2, 1) := by decide +kernel
theorem dX2_chooseUnlike_55 : decode cX2_chooseUnlike 55 = .ok (.if_icmp .ge 18, 3) := by decide +kernel
theorem dX2_chooseUnlike_58 : decode cX2_chooseUnlike 58 = .ok (.aload_n 0, 1) := by decide +kernel
theorem dX2_chooseUnlike_59 : decode cX2_chooseUnlike 59 = .ok (.getfield 27, 3) := by decide +kernel
theorem dX2_chooseUnlike_62 : decode cX2_chooseUnlike 62 = .ok (.iload_n 2, 1) := by decide +kernel
theorem dX2_chooseUnlike_63 : decode cX2_chooseUnlike 63 = .ok (.aload_n 0, 1) := by decide +kernel
theorem dX2_chooseUnlike_64 : decode cX2_chooseUnlike 64 = .ok (.getfield 27, 3) := by decide +kernel
theorem dX2_chooseUnlike_67 : decode cX2_chooseUnlike 67 = .ok (.iload_n 3, 1) := by decide +kernel
theorem dX2_chooseUnlike_68 : decode cX2_chooseUnlike 68 = .ok (.iaload, 1) := by decide +kernel
theorem dX2_chooseUnlike_69 : decode cX2_chooseUnlike 69 = .ok (.iastore, 1) := by decide +kernel
theorem dX2_chooseUnlike_70 : decode cX2_chooseUnlike 70 = .ok (.goto 57, 3) := by decide +kernel
theorem dX2_chooseUnlike_73 : decode cX2_chooseUnlike 73 = .ok (.iload_n 3, 1) := by decide +kernel
theorem dX2_chooseUnlike_74 : decode cX2_chooseUnlike 74 = .ok (.iload_n 2, 1) := by decide +kernel
theorem dX2_chooseUnlike_75 : decode cX2_chooseUnlike 75 = .ok (.if_icmp .ne 52, 3) := by decide +kernel
theorem dX2_chooseUnlike_78 : decode cX2_chooseUnlike 78 = .ok (.aload_n 0, 1) := by decide +kernel
theorem dX2_chooseUnlike_79 : decode cX2_chooseUnlike 79 = .ok (.getfield 100, 3) := by decide +kernel
theorem dX2_chooseUnlike_82 : decode cX2_chooseUnlike 82 = .ok (.ifCond .lt 45, 3) := by decide +kernel
theorem dX2_chooseUnlike_85 : decode cX2_chooseUnlike 85 = .ok (.aload_n 0, 1) := by decide +kernel
theorem dX2_chooseUnlike_86 : decode cX2_chooseUnlike 86 = .ok (.getfield 100, 3) := by decide +kernel
theorem dX2_chooseUnlike_89 : decode cX2_chooseUnlike 89 = .ok (.aload_n 0, 1) := by decide +kernel
theorem dX2_chooseUnlike_90 : decode cX2_chooseUnlike 90 = .ok (.getfield 23, 3) := by decide +kernel
theorem dX2_chooseUnlike_93 : decode cX2_chooseUnlike 93 = .ok (.arraylength, 1) := by decide +kernel
theorem dX2_chooseUnlike_94 : decode cX2_chooseUnlike 94 = .ok (.if_icmp .ge 33, 3) := by decide +kernel
theorem dX2_chooseUnlike_97 : decode cX2_chooseUnlike 97 = .ok (.aload_n 0, 1) := by decide +kernel
theorem dX2_chooseUnlike_98 : decode cX2_chooseUnlike 98 = .ok (.getfield 23, 3) := by decide +kernel
theorem dX2_chooseUnlike_101 : decode cX2_chooseUnlike 101 = .ok (.aload_n 0, 1) := by decide +kernel
theorem dX2_chooseUnlike_102 : decode cX2_chooseUnlike 102 = .ok (.getfield 100, 3) := by decide +kernel
theorem dX2_chooseUnlike_105 : decode cX2_chooseUnlike 105 = .ok (.iload_n 2, 1) := by decide +kernel
theorem dX2_chooseUnlike_106 : decode cX2_chooseUnlike 106 = .ok (.iastore, 1) := by decide +kernel
theorem dX2_chooseUnlike_107 : decode cX2_chooseUnlike 107 = .ok (.aload_n 0, 1) := by decide +kernel
theorem dX2_chooseUnlike_108 : decode cX2_chooseUnlike 108 = .ok (.getfield 27, 3) := by decide +kernel
theorem dX2_chooseUnlike_111 : decode cX2_chooseUnlike 111 = .ok (.iload_n 2, 1) := by decide +kernel
theorem dX2_chooseUnlike_112 : decode cX2_chooseUnlike 112 = .ok (.aload_n 0, 1) := by decide +kernel
theorem dX2_chooseUnlike_113 : decode cX2_chooseUnlike 113 = .ok (.getfield 100, 3) := by decide +kernel
theorem dX2_chooseUnlike_116 : decode cX2_chooseUnlike 116 = .ok (.iastore, 1) := by decide +kernel
theorem dX2_chooseUnlike_117 : decode cX2_chooseUnlike 117 = .ok (.aload_n 0, 1) := by decide +kernel
theorem dX2_chooseUnlike_118 : decode cX2_chooseUnlike 118 = .ok (.dup, 1) := by decide +kernel
theorem dX2_chooseUnlike_119 : decode cX2_chooseUnlike 119 = .ok (.getfield 100, 3) := by decide +kernel
theorem dX2_chooseUnlike_122 : decode cX2_chooseUnlike 122 = .ok (.iconst 1, 1) := by decide +kernel
theorem dX2_chooseUnlike_123 : decode cX2_chooseUnlike 123 = .ok (.iadd, 1) := by decide +kernel
theorem dX2_chooseUnlike_124 : decode cX2_chooseUnlike 124 = .ok (.putfield 100, 3) := by decide +kernel
theorem dX2_chooseUnlike_127 : decode cX2_chooseUnlike 127 = .ok (.iinc 2 1, 3) := by decide +kernel
theorem dX2_chooseUnlike_130 : decode cX2_chooseUnlike 130 = .ok (.goto (-123), 3) := by decide +kernel
theorem dX2_chooseUnlike_133 : decode cX2_chooseUnlike 133 = .ok (.aload_n 0, 1) := by decide +kernel
theorem dX2_chooseUnlike_134 : decode cX2_chooseUnlike 134 = .ok (.aload_n 0, 1) := by decide +kernel
theorem dX2_chooseUnlike_135 : decode cX2_chooseUnlike 135 = .ok (.getfield 100, 3) := by decide +kernel
theorem dX2_chooseUnlike_138 : decode cX2_chooseUnlike 138 = .ok (.putfield 72, 3) := by decide +kernel
theorem dX2_chooseUnlike_141 : decode cX2_chooseUnlike 141 = .ok (.return_, 1) := by decide +kernel
theorem dX2_gatherNumbers_0 : decode cX2_gatherNumbers 0 = .ok (.iconst 0, 1) := by decide +kernel
theorem dX2_gatherNumbers_1 : decode cX2_gatherNumbers 1 = .ok (.istore_n 2, 1) := by decide +kernel
theorem dX2_gatherNumbers_2 : decode cX2_gatherNumbers 2 = .ok (.iload_n 2, 1) := by decide +kernel
theorem dX2_gatherNumbers_3 : decode cX2_gatherNumbers 3 = .ok (.aload_n 0, 1) := by decide +kernel
theorem dX2_gatherNumbers_4 : decode cX2_gatherNumbers 4 = .ok (.getfield 100, 3) := by decide +kernel
theorem dX2_gatherNumbers_7 : decode cX2_gatherNumbers 7 = .ok (.if_icmp .ge 43, 3) := by decide +kernel
theorem dX2_gatherNumbers_10 : decode cX2_gatherNumbers 10 = .ok (.iload_n 2, 1) := by decide +kernel
theorem dX2_gatherNumbers_11 : decode cX2_gatherNumbers 11 = .ok (.aload_n 0, 1) := by decide +kernel
theorem dX2_gatherNumbers_12 : decode cX2_gatherNumbers 12 = .ok (.getfield 23, 3) := by decide +kernel
theorem dX2_gatherNumbers_15 : decode cX2_gatherNumbers 15 = .ok (.arraylength, 1) := by decide +kernel
theorem dX2_gatherNumbers_16 : decode cX2_gatherNumbers 16 = .ok (.if_icmp .ge 34, 3) := by decide +kernel
theorem dX2_gatherNumbers_19 : decode cX2_gatherNumbers 19 = .ok (.iload_n 2, 1) := by decide +kernel
theorem dX2_gatherNumbers_20 : decode cX2_gatherNumbers 20 = .ok (.aload_n 0, 1) := by decide +kernel
theorem dX2_gatherNumbers_21 : decode cX2_gatherNumbers 21 = .ok (.getfield 30, 3) := by decide +kernel
theorem dX2_gatherNumbers_24 : decode cX2_gatherNumbers 24 = .ok (.arraylength, 1) := by decide +kernel
theorem dX2_gatherNumbers_25 : decode cX2_gatherNumbers 25 = .ok (.if_icmp .ge 25, 3) := by decide +kernel
theorem dX2_gatherNumbers_28 : decode cX2_gatherNumbers 28 = .ok (.aload_n 0, 1) := by decide +kernel
theorem dX2_gatherNumbers_29 : decode cX2_gatherNumbers 29 = .ok (.getfield 30, 3) := by decide +kernel
theorem dX2_gatherNumbers_32 : decode cX2_gatherNumbers 32 = .ok (.iload_n 2, 1) := by decide +kernel
theorem dX2_gatherNumbers_33 : decode cX2_gatherNumbers 33 = .ok (.aload_n 1, 1) := by decide +kernel
theorem dX2_gatherNumbers_34 : decode cX2_gatherNumbers 34 = .ok (.aload_n 0, 1) := by decide +kernel
theorem dX2_gatherNumbers_35 : decode cX2_gatherNumbers 35 = .ok (.getfield 23, 3) := by decide +kernel
theorem dX2_gatherNumbers_38 : decode cX2_gatherNumbers 38 = .ok (.iload_n 2, 1) := by decide +kernel
theorem dX2_gatherNumbers_39 : decode cX2_gatherNumbers 39 = .ok (.iaload, 1) := by decide +kernel
theorem dX2_gatherNumbers_40 : decode cX2_gatherNumbers 40 = .ok (.invokevirtual 133, 3) := by decide +kernel
theorem dX2_gatherNumbers_43 : decode cX2_gatherNumbers 43 = .ok (.lastore, 1) := by decide +kernel
theorem dX2_gatherNumbers_44 : decode cX2_gatherNumbers 44 = .ok (.iinc 2 1, 3) := by decide +kernel
theorem dX2_gatherNumbers_47 : decode cX2_gatherNumbers 47 = .ok (.goto (-45), 3) := by decide +kernel
theorem dX2_gatherNumbers_50 : decode cX2_gatherNumbers 50 = .ok (.return_, 1) := by decide +kernel
theorem dX2_gatherLevels_0 : decode cX2_gatherLevels 0 = .ok (.iload_n 2, 1) := by decide +kernel
theorem dX2_gatherLevels_1 : decode cX2_gatherLevels 1 = .ok (.istore 4, 2) := by decide +kernel
theorem dX2_gatherLevels_3 : decode cX2_gatherLevels 3 = .ok (.iload 4, 2) := by decide +kernel
theorem dX2_gatherLevels_5 : decode cX2_gatherLevels 5 = .ok (.ifCond .lt 50, 3) := by decide +kernel
theorem dX2_gatherLevels_8 : decode cX2_gatherLevels 8 = .ok (.iload 4, 2) := by decide +kernel
theorem dX2_gatherLevels_10 : decode cX2_gatherLevels 10 = .ok (.iload_n 3, 1) := by decide +kernel
theorem dX2_gatherLevels_11 : decode cX2_gatherLevels 11 = .ok (.if_icmp .ge 44, 3) := by decide +kernel
theorem dX2_gatherLevels_14 : decode cX2_gatherLevels 14 = .ok (.iload 4, 2) := by decide +kernel
theorem dX2_gatherLevels_16 : decode cX2_gatherLevels 16 = .ok (.iload_n 2, 1) := by decide +kernel
theorem dX2_gatherLevels_17 : decode cX2_gatherLevels 17 = .ok (.isub, 1) := by decide +kernel
theorem dX2_gatherLevels_18 : decode cX2_gatherLevels 18 = .ok (.aload_n 0, 1) := by decide +kernel
theorem dX2_gatherLevels_19 : decode cX2_gatherLevels 19 = .ok (.getfield 30, 3) := by decide +kernel
theorem dX2_gatherLevels_22 : decode cX2_gatherLevels 22 = .ok (.arraylength, 1) := by decide +kernel
theorem dX2_gatherLevels_23 : decode cX2_gatherLevels 23 = .ok (.if_icmp .ge 32, 3) := by decide +kernel
theorem dX2_gatherLevels_26 : decode cX2_gatherLevels 26 = .ok (.aload_n 0, 1) := by decide +kernel
theorem dX2_gatherLevels_27 : decode cX2_gatherLevels 27 = .ok (.getfield 30, 3) := by decide +kernel
theorem dX2_gatherLevels_30 : decode cX2_gatherLevels 30 = .ok (.iload 4, 2) := by decide +kernel
theorem dX2_gatherLevels_32 : decode cX2_gatherLevels 32 = .ok (.iload_n 2, 1) := by decide +kernel
theorem dX2_gatherLevels_33 : decode cX2_gatherLevels 33 = .ok (.isub, 1) := by decide +kernel
theorem dX2_gatherLevels_34 : decode cX2_gatherLevels 34 = .ok (.aload_n 1, 1) := by decide +kernel
theorem dX2_gatherLevels_35 : decode cX2_gatherLevels 35 = .ok (.iload 4, 2) := by decide +kernel
theorem dX2_gatherLevels_37 : decode cX2_gatherLevels 37 = .ok (.invokevirtual 125, 3) := by decide +kernel
theorem dX2_gatherLevels_40 : decode cX2_gatherLevels 40 = .ok (.ifCond .eq 7, 3) := by decide +kernel
theorem dX2_gatherLevels_43 : decode cX2_gatherLevels 43 = .ok (.lconst 1, 1) := by decide +kernel
theorem dX2_gatherLevels_44 : decode cX2_gatherLevels 44 = .ok (.goto 4, 3) := by decide +kernel
theorem dX2_gatherLevels_47 : decode cX2_gatherLevels 47 = .ok (.lconst 0, 1) := by decide +kernel
theorem dX2_gatherLevels_48 : decode cX2_gatherLevels 48 = .ok (.lastore, 1) := by decide +kernel
theorem dX2_gatherLevels_49 : decode cX2_gatherLevels 49 = .ok (.iinc 4 1, 3) := by decide +kernel
theorem dX2_gatherLevels_52 : decode cX2_gatherLevels 52 = .ok (.goto (-49), 3) := by decide +kernel
theorem dX2_gatherLevels_55 : decode cX2_gatherLevels 55 = .ok (.return_, 1) := by decide +kernel
theorem dX2_pushOwnRuns_0 : decode cX2_pushOwnRuns 0 = .ok (.aload_n 0, 1) := by decide +kernel
theorem dX2_pushOwnRuns_1 : decode cX2_pushOwnRuns 1 = .ok (.getfield 20, 3) := by decide +kernel
theorem dX2_pushOwnRuns_4 : decode cX2_pushOwnRuns 4 = .ok (.getfield 124, 3) := by decide +kernel
theorem dX2_pushOwnRuns_7 : decode cX2_pushOwnRuns 7 = .ok (.istore_n 2, 1) := by decide +kernel
theorem dX2_pushOwnRuns_8 : decode cX2_pushOwnRuns 8 = .ok (.aload_n 0, 1) := by decide +kernel
theorem dX2_pushOwnRuns_9 : decode cX2_pushOwnRuns 9 = .ok (.getfield 20, 3) := by decide +kernel
theorem dX2_pushOwnRuns_12 : decode cX2_pushOwnRuns 12 = .ok (.lconst 0, 1) := by decide +kernel
theorem dX2_pushOwnRuns_13 : decode cX2_pushOwnRuns 13 = .ok (.iconst 4, 1) := by decide +kernel
theorem dX2_pushOwnRuns_14 : decode cX2_pushOwnRuns 14 = .ok (.invokevirtual 137, 3) := by decide +kernel
theorem dX2_pushOwnRuns_17 : decode cX2_pushOwnRuns 17 = .ok (.aload_n 0, 1) := by decide +kernel
theorem dX2_pushOwnRuns_18 : decode cX2_pushOwnRuns 18 = .ok (.getfield 20, 3) := by decide +kernel
theorem dX2_pushOwnRuns_21 : decode cX2_pushOwnRuns 21 = .ok (.aload_n 0, 1) := by decide +kernel
theorem dX2_pushOwnRuns_22 : decode cX2_pushOwnRuns 22 = .ok (.getfield 30, 3) := by decide +kernel
theorem dX2_pushOwnRuns_25 : decode cX2_pushOwnRuns 25 = .ok (.iload_n 1, 1) := by decide +kernel
theorem dX2_pushOwnRuns_26 : decode cX2_pushOwnRuns 26 = .ok (.iconst 1, 1) := by decide +kernel
theorem dX2_pushOwnRuns_27 : decode cX2_pushOwnRuns 27 = .ok (.invokevirtual 141, 3) := by decide +kernel
theorem dX2_pushOwnRuns_30 : decode cX2_pushOwnRuns 30 = .ok (.aload_n 0, 1) := by decide +kernel
theorem dX2_pushOwnRuns_31 : decode cX2_pushOwnRuns 31 = .ok (.getfield 20, 3) := by decide +kernel
theorem dX2_pushOwnRuns_34 : decode cX2_pushOwnRuns 34 = .ok (.iload_n 2, 1) := by decide +kernel
theorem dX2_pushOwnRuns_35 : decode cX2_pushOwnRuns 35 = .ok (.invokevirtual 145, 3) := by decide +kernel
theorem dX2_pushOwnRuns_38 : decode cX2_pushOwnRuns 38 = .ok (.return_, 1) := by decide +kernel
theorem dX2_pushPlain_0 : decode cX2_pushPlain 0 = .ok (.aload_n 1, 1) := by decide +kernel
theorem dX2_pushPlain_1 : decode cX2_pushPlain 1 = .ok (.getfield 56, 3) := by decide +kernel
theorem dX2_pushPlain_4 : decode cX2_pushPlain 4 = .ok (.iconst 3, 1) := by decide +kernel
theorem dX2_pushPlain_5 : decode cX2_pushPlain 5 = .ok (.if_icmp .ne 36, 3) := by decide +kernel
theorem dX2_pushPlain_8 : decode cX2_pushPlain 8 = .ok (.aload_n 0, 1) := by decide +kernel
theorem dX2_pushPlain_9 : decode cX2_pushPlain 9 = .ok (.aload_n 1, 1) := by decide +kernel
theorem dX2_pushPlain_10 : decode cX2_pushPlain 10 = .ok (.invokevirtual 97, 3) := by decide +kernel
theorem dX2_pushPlain_13 : decode cX2_pushPlain 13 = .ok (.aload_n 0, 1) := by decide +kernel
theorem dX2_pushPlain_14 : decode cX2_pushPlain 14 = .ok (.getfield 20, 3) := by decide +kernel
theorem dX2_pushPlain_17 : decode cX2_pushPlain 17 = .ok (.aload_n 0, 1) := by decide +kernel
theorem dX2_pushPlain_18 : decode cX2_pushPlain 18 = .ok (.getfield 30, 3) := by decide +kernel
theorem dX2_pushPlain_21 : decode cX2_pushPlain 21 = .ok (.iconst 0, 1) := by decide +kernel
theorem dX2_pushPlain_22 : decode cX2_pushPlain 22 = .ok (.aload_n 0, 1) := by decide +kernel
theorem dX2_pushPlain_23 : decode cX2_pushPlain 23 = .ok (.getfield 100, 3) := by decide +kernel
theorem dX2_pushPlain_26 : decode cX2_pushPlain 26 = .ok (.aload_n 0, 1) := by decide +kernel
theorem dX2_pushPlain_27 : decode cX2_pushPlain 27 = .ok (.getfield 100, 3) := by decide +kernel
theorem dX2_pushPlain_30 : decode cX2_pushPlain 30 = .ok (.invokestatic 148, 3) := by decide +kernel
theorem dX2_pushPlain_33 : decode cX2_pushPlain 33 = .ok (.bipush 8, 2) := by decide +kernel
theorem dX2_pushPlain_35 : decode cX2_pushPlain 35 = .ok (.imul, 1) := by decide +kernel
theorem dX2_pushPlain_36 : decode cX2_pushPlain 36 = .ok (.iconst 1, 1) := by decide +kernel
theorem dX2_pushPlain_37 : decode cX2_pushPlain 37 = .ok (.invokevirtual 151, 3) := by decide +kernel
theorem dX2_pushPlain_40 : decode cX2_pushPlain 40 = .ok (.return_, 1) := by decide +kernel
theorem dX2_pushPlain_41 : decode cX2_pushPlain 41 = .ok (.iconst 0, 1) := by decide +kernel
theorem dX2_pushPlain_42 : decode cX2_pushPlain 42 = .ok (.istore_n 2, 1) := by decide +kernel
theorem dX2_pushPlain_43 : decode cX2_pushPlain 43 = .ok (.iload_n 2, 1) := by decide +kernel
theorem dX2_pushPlain_44 : decode cX2_pushPlain 44 = .ok (.aload_n 0, 1) := by decide +kernel
theorem dX2_pushPlain_45 : decode cX2_pushPlain 45 = .ok (.getfield 100, 3) := by decide +kernel
theorem dX2_pushPlain_48 : decode cX2_pushPlain 48 = .ok (.if_icmp .ge 68, 3) := by decide +kernel
theorem dX2_pushPlain_51 : decode cX2_pushPlain 51 = .ok (.iload_n 2, 1) := by decide +kernel
theorem dX2_pushPlain_52 : decode cX2_pushPlain 52 = .ok (.aload_n 0, 1) := by decide +kernel
theorem dX2_pushPlain_53 : decode cX2_pushPlain 53 = .ok (.getfield 23, 3) := by decide +kernel
theorem dX2_pushPlain_56 : decode cX2_pushPlain 56 = .ok (.arraylength, 1) := by decide +kernel
theorem dX2_pushPlain_57 : decode cX2_pushPlain 57 = .ok (.if_icmp .ge 59, 3) := by decide +kernel
theorem dX2_pushPlain_60 : decode cX2_pushPlain 60 = .ok (.aload_n 0, 1) := by decide +kernel
theorem dX2_pushPlain_61 : decode cX2_pushPlain 61 = .ok (.getfield 20, 3) := by decide +kernel
theorem dX2_pushPlain_64 : decode cX2_pushPlain 64 = .ok (.aload_n 1, 1) := by decide +kernel
theorem dX2_pushPlain_65 : decode cX2_pushPlain 65 = .ok (.aload_n 0, 1) := by decide +kernel
theorem dX2_pushPlain_66 : decode cX2_pushPlain 66 = .ok (.getfield 23, 3) := by decide +kernel
theorem dX2_pushPlain_69 : decode cX2_pushPlain 69 = .ok (.iload_n 2, 1) := by decide +kernel
theorem dX2_pushPlain_70 : decode cX2_pushPlain 70 = .ok (.iaload, 1) := by decide +kernel
theorem dX2_pushPlain_71 : decode cX2_pushPlain 71 = .ok (.invokevirtual 133, 3) := by decide +kernel
theorem dX2_pushPlain_74 : decode cX2_pushPlain 74 = .ok (.aload_n 1, 1) := by decide +kernel
theorem dX2_pushPlain_75 : decode cX2_pushPlain 75 = .ok (.getfield 56, 3) := by decide +kernel
theorem dX2_pushPlain_78 : decode cX2_pushPlain 78 = .ok (.iconst 1, 1) := by decide +kernel
theorem dX2_pushPlain_79 : decode cX2_pushPlain 79 = .ok (.if_icmp .ne 8, 3) := by decide +kernel
theorem dX2_pushPlain_82 : decode cX2_pushPlain 82 = .ok (.bipush 8, 2) := by decide +kernel
theorem dX2_pushPlain_84 : decode cX2_pushPlain 84 = .ok (.goto 4, 3) := by decide +kernel
theorem dX2_pushPlain_87 : decode cX2_pushPlain 87 = .ok (.iconst 4, 1) := by decide +kernel
theorem dX2_pushPlain_88 : decode cX2_pushPlain 88 = .ok (.invokevirtual 137, 3) := by decide +kernel
theorem dX2_pushPlain_91 : decode cX2_pushPlain 91 = .ok (.aload_n 1, 1) := by decide +kernel
theorem dX2_pushPlain_92 : decode cX2_pushPlain 92 = .ok (.getfield 56, 3) := by decide +kernel
theorem dX2_pushPlain_95 : decode cX2_pushPlain 95 = .ok (.iconst 2, 1) := by decide +kernel
theorem dX2_pushPlain_96 : decode cX2_pushPlain 96 = .ok (.if_icmp .ne 14, 3) := by decide +kernel
theorem dX2_pushPlain_99 : decode cX2_pushPlain 99 = .ok (.aload_n 0, 1) := by decide +kernel
theorem dX2_pushPlain_100 : decode cX2_pushPlain 100 = .ok (.aload_n 1, 1) := by decide +kernel
theorem dX2_pushPlain_101 : decode cX2_pushPlain 101 = .ok (.aload_n 0, 1) := by decide +kernel
theorem dX2_pushPlain_102 : decode cX2_pushPlain 102 = .ok (.getfield 23, 3) := by decide +kernel
theorem dX2_pushPlain_105 : decode cX2_pushPlain 105 = .ok (.iload_n 2, 1) := by decide +kernel
theorem dX2_pushPlain_106 : decode cX2_pushPlain 106 = .ok (.iaload, 1) := by decide +kernel
theorem dX2_pushPlain_107 : decode cX2_pushPlain 107 = .ok (.invokevirtual 155, 3) := by decide +kernel
theorem dX2_pushPlain_110 : decode cX2_pushPlain 110 = .ok (.iinc 2 1, 3) := by decide +kernel
theorem dX2_pushPlain_113 : decode cX2_pushPlain 113 = .ok (.goto (-70), 3) := by decide +kernel
theorem dX2_pushPlain_116 : decode cX2_pushPlain 116 = .ok (.return_, 1) := by decide +kernel
theorem dX2_pushAllLetters_0 : decode cX2_pushAllLetters 0 = .ok (.iconst 0, 1) := by decide +kernel
theorem dX2_pushAllLetters_1 : decode cX2_pushAllLetters 1 = .ok (.istore_n 2, 1) := by decide +kernel
theorem dX2_pushAllLetters_2 : decode cX2_pushAllLetters 2 = .ok (.iload_n 2, 1) := by decide +kernel
theorem dX2_pushAllLetters_3 : decode cX2_pushAllLetters 3 = .ok (.aload_n 0, 1) := by decide +kernel
theorem dX2_pushAllLetters_4 : decode cX2_pushAllLetters 4 = .ok (.getfield 100, 3) := by decide +kernel
theorem dX2_pushAllLetters_7 : decode cX2_pushAllLetters 7 = .ok (.if_icmp .ge 29, 3) := by decide +kernel
theorem dX2_pushAllLetters_10 : decode cX2_pushAllLetters 10 = .ok (.iload_n 2, 1) := by decide +kernel
theorem dX2_pushAllLetters_11 : decode cX2_pushAllLetters 11 = .ok (.aload_n 0, 1) := by decide +kernel
theorem dX2_pushAllLetters_12 : decode cX2_pushAllLetters 12 = .ok (.getfield 23, 3) := by decide +kernel
theorem dX2_pushAllLetters_15 : decode cX2_pushAllLetters 15 = .ok (.arraylength, 1) := by decide +kernel
theorem dX2_pushAllLetters_16 : decode cX2_pushAllLetters 16 = .ok (.if_icmp .ge 20, 3) := by decide +kernel
theorem dX2_pushAllLetters_19 : decode cX2_pushAllLetters 19 = .ok (.aload_n 0, 1) := by decide +kernel
theorem dX2_pushAllLetters_20 : decode cX2_pushAllLetters 20 = .ok (.aload_n 1, 1) := by decide +kernel
theorem dX2_pushAllLetters_21 : decode cX2_pushAllLetters 21 = .ok (.aload_n 0, 1) := by decide +kernel
theorem dX2_pushAllLetters_22 : decode cX2_pushAllLetters 22 = .ok (.getfield 23, 3) := by decide +kernel
theorem dX2_pushAllLetters_25 : decode cX2_pushAllLetters 25 = .ok (.iload_n 2, 1) := by decide +kernel
theorem dX2_pushAllLetters_26 : decode cX2_pushAllLetters 26 = .ok (.iaload, 1) := by decide +kernel
theorem dX2_pushAllLetters_27 : decode cX2_pushAllLetters 27 = .ok (.invokevirtual 155, 3) := by decide +kernel
theorem dX2_pushAllLetters_30 : decode cX2_pushAllLetters 30 = .ok (.iinc 2 1, 3) := by decide +kernel
theorem dX2_pushAllLetters_33 : decode cX2_pushAllLetters 33 = .ok (.goto (-31), 3) := by decide +kernel
theorem dX2_pushAllLetters_36 : decode cX2_pushAllLetters 36 = .ok (.return_, 1) := by decide +kernel
theorem dX2_pushLetters_0 : decode cX2_pushLetters 0 = .ok (.aload_n 1, 1) := by decide +kernel
theorem dX2_pushLetters_1 : decode cX2_pushLetters 1 = .ok (.iload_n 2, 1) := by decide +kernel
theorem dX2_pushLetters_2 : decode cX2_pushLetters 2 = .ok (.invokevirtual 133, 3) := by decide +kernel
theorem dX2_pushLetters_5 : decode cX2_pushLetters 5 = .ok (.lstore_n 3, 1) := by decide +kernel
theorem dX2_pushLetters_6 : decode cX2_pushLetters 6 = .ok (.iconst 0, 1) := by decide +kernel
theorem dX2_pushLetters_7 : decode cX2_pushLetters 7 = .ok (.istore 5, 2) := by decide +kernel
theorem dX2_pushLetters_9 : decode cX2_pushLetters 9 = .ok (.iload 5, 2) := by decide +kernel
theorem dX2_pushLetters_11 : decode cX2_pushLetters 11 = .ok (.bipush 40, 2) := by decide +kernel
theorem dX2_pushLetters_13 : decode cX2_pushLetters 13 = .ok (.if_icmp .ge 31, 3) := by decide +kernel
theorem dX2_pushLetters_16 : decode cX2_pushLetters 16 = .ok (.iload 5, 2) := by decide +kernel
theorem dX2_pushLetters_18 : decode cX2_pushLetters 18 = .ok (.i2l, 1) := by decide +kernel
theorem dX2_pushLetters_19 : decode cX2_pushLetters 19 = .ok (.lload_n 3, 1) := by decide +kernel
theorem dX2_pushLetters_20 : decode cX2_pushLetters 20 = .ok (.lcmp, 1) := by decide +kernel
theorem dX2_pushLetters_21 : decode cX2_pushLetters 21 = .ok (.ifCond .ge 23, 3) := by decide +kernel
theorem dX2_pushLetters_24 : decode cX2_pushLetters 24 = .ok (.aload_n 0, 1) := by decide +kernel
theorem dX2_pushLetters_25 : decode cX2_pushLetters 25 = .ok (.getfield 20, 3) := by decide +kernel
theorem dX2_pushLetters_28 : decode cX2_pushLetters 28 = .ok (.aload_n 1, 1) := by decide +kernel
theorem dX2_pushLetters_29 : decode cX2_pushLetters 29 = .ok (.iload_n 2, 1) := by decide +kernel
theorem dX2_pushLetters_30 : decode cX2_pushLetters 30 = .ok (.iload 5, 2) := by decide +kernel
theorem dX2_pushLetters_32 : decode cX2_pushLetters 32 = .ok (.invokevirtual 159, 3) := by decide +kernel
theorem dX2_pushLetters_35 : decode cX2_pushLetters 35 = .ok (.invokevirtual 113, 3) := by decide +kernel
theorem dX2_pushLetters_38 : decode cX2_pushLetters 38 = .ok (.iinc 5 1, 3) := by decide +kernel
theorem dX2_pushLetters_41 : decode cX2_pushLetters 41 = .ok (.goto (-32), 3) := by decide +kernel
theorem dX2_pushLetters_44 : decode cX2_pushLetters 44 = .ok (.return_, 1) := by decide +kernel
theorem dX2_pushPlaces_0 : decode cX2_pushPlaces 0 = .ok (.iconst 0, 1) := by decide +kernel
theorem dX2_pushPlaces_1 : decode cX2_pushPlaces 1 = .ok (.istore_n 1, 1) := by decide +kernel
theorem dX2_pushPlaces_2 : decode cX2_pushPlaces 2 = .ok (.iload_n 1, 1) := by decide +kernel
theorem dX2_pushPlaces_3 : decode cX2_pushPlaces 3 = .ok (.aload_n 0, 1) := by decide +kernel
theorem dX2_pushPlaces_4 : decode cX2_pushPlaces 4 = .ok (.getfield 100, 3) := by decide +kernel
theorem dX2_pushPlaces_7 : decode cX2_pushPlaces 7 = .ok (.if_icmp .ge 64, 3) := by decide +kernel
theorem dX2_pushPlaces_10 : decode cX2_pushPlaces 10 = .ok (.iload_n 1, 1) := by decide +kernel
theorem dX2_pushPlaces_11 : decode cX2_pushPlaces 11 = .ok (.aload_n 0, 1) := by decide +kernel
theorem dX2_pushPlaces_12 : decode cX2_pushPlaces 12 = .ok (.getfield 23, 3) := by decide +kernel
theorem dX2_pushPlaces_15 : decode cX2_pushPlaces 15 = .ok (.arraylength, 1) := by decide +kernel
theorem dX2_pushPlaces_16 : decode cX2_pushPlaces 16 = .ok (.if_icmp .ge 55, 3) := by decide +kernel
theorem dX2_pushPlaces_19 : decode cX2_pushPlaces 19 = .ok (.iload_n 1, 1) := by decide +kernel
theorem dX2_pushPlaces_20 : decode cX2_pushPlaces 20 = .ok (.aload_n 0, 1) := by decide +kernel
theorem dX2_pushPlaces_21 : decode cX2_pushPlaces 21 = .ok (.getfield 30, 3) := by decide +kernel
theorem dX2_pushPlaces_24 : decode cX2_pushPlaces 24 = .ok (.arraylength, 1) := by decide +kernel
theorem dX2_pushPlaces_25 : decode cX2_pushPlaces 25 = .ok (.if_icmp .ge 46, 3) := by decide +kernel
theorem dX2_pushPlaces_28 : decode cX2_pushPlaces 28 = .ok (.aload_n 0, 1) := by decide +kernel
theorem dX2_pushPlaces_29 : decode cX2_pushPlaces 29 = .ok (.getfield 23, 3) := by decide +kernel
theorem dX2_pushPlaces_32 : decode cX2_pushPlaces 32 = .ok (.iload_n 1, 1) := by decide +kernel
theorem dX2_pushPlaces_33 : decode cX2_pushPlaces 33 = .ok (.iaload, 1) := by decide +kernel
theorem dX2_pushPlaces_34 : decode cX2_pushPlaces 34 = .ok (.istore_n 2, 1) := by decide +kernel
theorem dX2_pushPlaces_35 : decode cX2_pushPlaces 35 = .ok (.aload_n 0, 1) := by decide +kernel
theorem dX2_pushPlaces_36 : decode cX2_pushPlaces 36 = .ok (.getfield 30, 3) := by decide +kernel
theorem dX2_pushPlaces_39 : decode cX2_pushPlaces 39 = .ok (.iload_n 1, 1) := by decide +kernel
theorem dX2_pushPlaces_40 : decode cX2_pushPlaces 40 = .ok (.iload_n 2, 1) := by decide +kernel
theorem dX2_pushPlaces_41 : decode cX2_pushPlaces 41 = .ok (.ifCond .lt 22, 3) := by decide +kernel
theorem dX2_pushPlaces_44 : decode cX2_pushPlaces 44 = .ok (.iload_n 2, 1) := by decide +kernel
theorem dX2_pushPlaces_45 : decode cX2_pushPlaces 45 = .ok (.aload_n 0, 1) := by decide +kernel
theorem dX2_pushPlaces_46 : decode cX2_pushPlaces 46 = .ok (.getfield 27, 3) := by decide +kernel
theorem dX2_pushPlaces_49 : decode cX2_pushPlaces 49 = .ok (.arraylength, 1) := by decide +kernel
theorem dX2_pushPlaces_50 : decode cX2_pushPlaces 50 = .ok (.if_icmp .ge 13, 3) := by decide +kernel
theorem dX2_pushPlaces_53 : decode cX2_pushPlaces 53 = .ok (.aload_n 0, 1) := by decide +kernel
theorem dX2_pushPlaces_54 : decode cX2_pushPlaces 54 = .ok (.getfield 27, 3) := by decide +kernel
theorem dX2_pushPlaces_57 : decode cX2_pushPlaces 57 = .ok (.iload_n 2, 1) := by decide +kernel
theorem dX2_pushPlaces_58 : decode cX2_pushPlaces 58 = .ok (.iaload, 1) := by decide +kernel
theorem dX2_pushPlaces_59 : decode cX2_pushPlaces 59 = .ok (.i2l, 1) := by decide +kernel
theorem dX2_pushPlaces_60 : decode cX2_pushPlaces 60 = .ok (.goto 4, 3) := by decide +kernel
theorem dX2_pushPlaces_63 : decode cX2_pushPlaces 63 = .ok (.lconst 0, 1) := by decide +kernel
theorem dX2_pushPlaces_64 : decode cX2_pushPlaces 64 = .ok (.lastore, 1) := by decide +kernel
theorem dX2_pushPlaces_65 : decode cX2_pushPlaces 65 = .ok (.iinc 1 1, 3) := by decide +kernel
theorem dX2_pushPlaces_68 : decode cX2_pushPlaces 68 = .ok (.goto (-66), 3) := by decide +kernel
theorem dX2_pushPlaces_71 : decode cX2_pushPlaces 71 = .ok (.aload_n 0, 1) := by decide +kernel
theorem dX2_pushPlaces_72 : decode cX2_pushPlaces 72 = .ok (.getfield 72, 3) := by decide +kernel
theorem dX2_pushPlaces_75 : decode cX2_pushPlaces 75 = .ok (.iconst 1, 1) := by decide +kernel
theorem dX2_pushPlaces_76 : decode cX2_pushPlaces 76 = .ok (.if_icmp .le 16, 3) := by decide +kernel
theorem dX2_pushPlaces_79 : decode cX2_pushPlaces 79 = .ok (.aload_n 0, 1) := by decide +kernel
theorem dX2_pushPlaces_80 : decode cX2_pushPlaces 80 = .ok (.getfield 72, 3) := by decide +kernel
theorem dX2_pushPlaces_83 : decode cX2_pushPlaces 83 = .ok (.iconst 1, 1) := by decide +kernel
theorem dX2_pushPlaces_84 : decode cX2_pushPlaces 84 = .ok (.isub, 1) := by decide +kernel
theorem dX2_pushPlaces_85 : decode cX2_pushPlaces 85 = .ok (.i2l, 1) := by decide +kernel
theorem dX2_pushPlaces_86 : decode cX2_pushPlaces 86 = .ok (.invokestatic 162, 3) := by decide +kernel
theorem dX2_pushPlaces_89 : decode cX2_pushPlaces 89 = .ok (.goto 4, 3) := by decide +kernel
theorem dX2_pushPlaces_92 : decode cX2_pushPlaces 92 = .ok (.iconst 0, 1) := by decide +kernel
theorem dX2_pushPlaces_93 : decode cX2_pushPlaces 93 = .ok (.istore_n 1, 1) := by decide +kernel
theorem dX2_pushPlaces_94 : decode cX2_pushPlaces 94 = .ok (.aload_n 0, 1) := by decide +kernel
theorem dX2_pushPlaces_95 : decode cX2_pushPlaces 95 = .ok (.getfield 20, 3) := by decide +kernel
theorem dX2_pushPlaces_98 : decode cX2_pushPlaces 98 = .ok (.iload_n 1, 1) := by decide +kernel
theorem dX2_pushPlaces_99 : decode cX2_pushPlaces 99 = .ok (.invokevirtual 113, 3) := by decide +kernel
theorem dX2_pushPlaces_102 : decode cX2_pushPlaces 102 = .ok (.aload_n 0, 1) := by decide +kernel
theorem dX2_pushPlaces_103 : decode cX2_pushPlaces 103 = .ok (.getfield 20, 3) := by decide +kernel
theorem dX2_pushPlaces_106 : decode cX2_pushPlaces 106 = .ok (.aload_n 0, 1) := by decide +kernel
theorem dX2_pushPlaces_107 : decode cX2_pushPlaces 107 = .ok (.getfield 30, 3) := by decide +kernel
theorem dX2_pushPlaces_110 : decode cX2_pushPlaces 110 = .ok (.aload_n 0, 1) := by decide +kernel
theorem dX2_pushPlaces_111 : decode cX2_pushPlaces 111 = .ok (.getfield 100, 3) := by decide +kernel
theorem dX2_pushPlaces_114 : decode cX2_pushPlaces 114 = .ok (.iload_n 1, 1) := by decide +kernel
theorem dX2_pushPlaces_115 : decode cX2_pushPlaces 115 = .ok (.invokevirtual 141, 3) := by decide +kernel
theorem dX2_pushPlaces_118 : decode cX2_pushPlaces 118 = .ok (.return_, 1) := by decide +kernel
