theorem dX1_init_0 : decode cX1_init 0 = .ok (.aload_n 0, 1) := by decide +kernel
theorem dX1_init_1 : decode cX1_init 1 = .ok (.invokespecial 3, 3) := by decide +kernel
theorem dX1_init_4 : decode cX1_init 4 = .ok (.aload_n 0, 1) := by decide +kernel
theorem dX1_init_5 : decode cX1_init 5 = .ok (.new 9, 3) := by decide +kernel
theorem dX1_init_8 : decode cX1_init 8 = .ok (.dup, 1) := by decide +kernel
theorem dX1_init_9 : decode cX1_init 9 = .ok (.invokespecial 11, 3) := by decide +kernel
theorem dX1_init_12 : decode cX1_init 12 = .ok (.putfield 12, 3) := by decide +kernel
theorem dX1_init_15 : decode cX1_init 15 = .ok (.aload_n 0, 1) := by decide +kernel
theorem dX1_init_16 : decode cX1_init 16 = .ok (.new 18, 3) := by decide +kernel
theorem dX1_init_19 : decode cX1_init 19 = .ok (.dup, 1) := by decide +kernel
theorem dX1_init_20 : decode cX1_init 20 = .ok (.invokespecial 20, 3) := by decide +kernel
theorem dX1_init_23 : decode cX1_init 23 = .ok (.putfield 21, 3) := by decide +kernel
theorem dX1_init_26 : decode cX1_init 26 = .ok (.aload_n 0, 1) := by decide +kernel
theorem dX1_init_27 : decode cX1_init 27 = .ok (.new 18, 3) := by decide +kernel
theorem dX1_init_30 : decode cX1_init 30 = .ok (.dup, 1) := by decide +kernel
theorem dX1_init_31 : decode cX1_init 31 = .ok (.invokespecial 20, 3) := by decide +kernel
theorem dX1_init_34 : decode cX1_init 34 = .ok (.putfield 25, 3) := by decide +kernel
theorem dX1_init_37 : decode cX1_init 37 = .ok (.aload_n 0, 1) := by decide +kernel
theorem dX1_init_38 : decode cX1_init 38 = .ok (.sipush 200, 3) := by decide +kernel
theorem dX1_init_41 : decode cX1_init 41 = .ok (.newarray .long, 2) := by decide +kernel
theorem dX1_init_43 : decode cX1_init 43 = .ok (.putfield 28, 3) := by decide +kernel
theorem dX1_init_46 : decode cX1_init 46 = .ok (.aload_n 0, 1) := by decide +kernel
theorem dX1_init_47 : decode cX1_init 47 = .ok (.sipush 200, 3) := by decide +kernel
theorem dX1_init_50 : decode cX1_init 50 = .ok (.newarray .long, 2) := by decide +kernel
theorem dX1_init_52 : decode cX1_init 52 = .ok (.putfield 32, 3) := by decide +kernel
theorem dX1_init_55 : decode cX1_init 55 = .ok (.return_, 1) := by decide +kernel
theorem dX1_readPages_0 : decode cX1_readPages 0 = .ok (.aload_n 0, 1) := by decide +kernel
theorem dX1_readPages_1 : decode cX1_readPages 1 = .ok (.getfield 12, 3) := by decide +kernel
theorem dX1_readPages_4 : decode cX1_readPages 4 = .ok (.aload_n 1, 1) := by decide +kernel
theorem dX1_readPages_5 : decode cX1_readPages 5 = .ok (.invokevirtual 35, 3) := by decide +kernel
theorem dX1_readPages_8 : decode cX1_readPages 8 = .ok (.aload_n 0, 1) := by decide +kernel
theorem dX1_readPages_9 : decode cX1_readPages 9 = .ok (.getfield 21, 3) := by decide +kernel
theorem dX1_readPages_12 : decode cX1_readPages 12 = .ok (.iload_n 2, 1) := by decide +kernel
theorem dX1_readPages_13 : decode cX1_readPages 13 = .ok (.iload_n 3, 1) := by decide +kernel
theorem dX1_readPages_14 : decode cX1_readPages 14 = .ok (.invokevirtual 39, 3) := by decide +kernel
theorem dX1_readPages_17 : decode cX1_readPages 17 = .ok (.aload_n 0, 1) := by decide +kernel
theorem dX1_readPages_18 : decode cX1_readPages 18 = .ok (.getfield 25, 3) := by decide +kernel
theorem dX1_readPages_21 : decode cX1_readPages 21 = .ok (.iload_n 2, 1) := by decide +kernel
theorem dX1_readPages_22 : decode cX1_readPages 22 = .ok (.iconst 0, 1) := by decide +kernel
theorem dX1_readPages_23 : decode cX1_readPages 23 = .ok (.invokevirtual 39, 3) := by decide +kernel
theorem dX1_readPages_26 : decode cX1_readPages 26 = .ok (.aload_n 0, 1) := by decide +kernel
theorem dX1_readPages_27 : decode cX1_readPages 27 = .ok (.iconst 0, 1) := by decide +kernel
theorem dX1_readPages_28 : decode cX1_readPages 28 = .ok (.putfield 42, 3) := by decide +kernel
theorem dX1_readPages_31 : decode cX1_readPages 31 = .ok (.aload_n 0, 1) := by decide +kernel
theorem dX1_readPages_32 : decode cX1_readPages 32 = .ok (.iconst 0, 1) := by decide +kernel
theorem dX1_readPages_33 : decode cX1_readPages 33 = .ok (.putfield 46, 3) := by decide +kernel
theorem dX1_readPages_36 : decode cX1_readPages 36 = .ok (.iconst 0, 1) := by decide +kernel
theorem dX1_readPages_37 : decode cX1_readPages 37 = .ok (.istore 4, 2) := by decide +kernel
theorem dX1_readPages_39 : decode cX1_readPages 39 = .ok (.iload 4, 2) := by decide +kernel
theorem dX1_readPages_41 : decode cX1_readPages 41 = .ok (.sipush 12000, 3) := by decide +kernel
theorem dX1_readPages_44 : decode cX1_readPages 44 = .ok (.if_icmp .ge 113, 3) := by decide +kernel
theorem dX1_readPages_47 : decode cX1_readPages 47 = .ok (.aload_n 0, 1) := by decide +kernel
theorem dX1_readPages_48 : decode cX1_readPages 48 = .ok (.getfield 12, 3) := by decide +kernel
theorem dX1_readPages_51 : decode cX1_readPages 51 = .ok (.invokevirtual 50, 3) := by decide +kernel
theorem dX1_readPages_54 : decode cX1_readPages 54 = .ok (.ifCond .eq 103, 3) := by decide +kernel
theorem dX1_readPages_57 : decode cX1_readPages 57 = .ok (.aload_n 0, 1) := by decide +kernel
theorem dX1_readPages_58 : decode cX1_readPages 58 = .ok (.getfield 12, 3) := by decide +kernel
theorem dX1_readPages_61 : decode cX1_readPages 61 = .ok (.invokevirtual 54, 3) := by decide +kernel
theorem dX1_readPages_64 : decode cX1_readPages 64 = .ok (.ifCond .le 93, 3) := by decide +kernel
theorem dX1_readPages_67 : decode cX1_readPages 67 = .ok (.aload_n 0, 1) := by decide +kernel
theorem dX1_readPages_68 : decode cX1_readPages 68 = .ok (.invokevirtual 58, 3) := by decide +kernel
theorem dX1_readPages_71 : decode cX1_readPages 71 = .ok (.aload_n 0, 1) := by decide +kernel
theorem dX1_readPages_72 : decode cX1_readPages 72 = .ok (.getfield 12, 3) := by decide +kernel
theorem dX1_readPages_75 : decode cX1_readPages 75 = .ok (.invokevirtual 50, 3) := by decide +kernel
theorem dX1_readPages_78 : decode cX1_readPages 78 = .ok (.ifCond .eq 17, 3) := by decide +kernel
theorem dX1_readPages_81 : decode cX1_readPages 81 = .ok (.aload_n 0, 1) := by decide +kernel
theorem dX1_readPages_82 : decode cX1_readPages 82 = .ok (.getfield 61, 3) := by decide +kernel
theorem dX1_readPages_85 : decode cX1_readPages 85 = .ok (.ifCond .eq 10, 3) := by decide +kernel
theorem dX1_readPages_88 : decode cX1_readPages 88 = .ok (.aload_n 0, 1) := by decide +kernel
theorem dX1_readPages_89 : decode cX1_readPages 89 = .ok (.invokevirtual 64, 3) := by decide +kernel
theorem dX1_readPages_92 : decode cX1_readPages 92 = .ok (.goto 17, 3) := by decide +kernel
theorem dX1_readPages_95 : decode cX1_readPages 95 = .ok (.aload_n 0, 1) := by decide +kernel
theorem dX1_readPages_96 : decode cX1_readPages 96 = .ok (.getfield 12, 3) := by decide +kernel
theorem dX1_readPages_99 : decode cX1_readPages 99 = .ok (.invokevirtual 50, 3) := by decide +kernel
theorem dX1_readPages_102 : decode cX1_readPages 102 = .ok (.ifCond .eq 7, 3) := by decide +kernel
theorem dX1_readPages_105 : decode cX1_readPages 105 = .ok (.aload_n 0, 1) := by decide +kernel
theorem dX1_readPages_106 : decode cX1_readPages 106 = .ok (.invokevirtual 67, 3) := by decide +kernel
theorem dX1_readPages_109 : decode cX1_readPages 109 = .ok (.aload_n 0, 1) := by decide +kernel
theorem dX1_readPages_110 : decode cX1_readPages 110 = .ok (.getfield 12, 3) := by decide +kernel
theorem dX1_readPages_113 : decode cX1_readPages 113 = .ok (.invokevirtual 70, 3) := by decide +kernel
theorem dX1_readPages_116 : decode cX1_readPages 116 = .ok (.aload_n 0, 1) := by decide +kernel
theorem dX1_readPages_117 : decode cX1_readPages 117 = .ok (.dup, 1) := by decide +kernel
theorem dX1_readPages_118 : decode cX1_readPages 118 = .ok (.getfield 42, 3) := by decide +kernel
theorem dX1_readPages_121 : decode cX1_readPages 121 = .ok (.aload_n 0, 1) := by decide +kernel
theorem dX1_readPages_122 : decode cX1_readPages 122 = .ok (.getfield 12, 3) := by decide +kernel
theorem dX1_readPages_125 : decode cX1_readPages 125 = .ok (.invokevirtual 50, 3) := by decide +kernel
theorem dX1_readPages_128 : decode cX1_readPages 128 = .ok (.ifCond .eq 7, 3) := by decide +kernel
theorem dX1_readPages_131 : decode cX1_readPages 131 = .ok (.iconst 1, 1) := by decide +kernel
theorem dX1_readPages_132 : decode cX1_readPages 132 = .ok (.goto 4, 3) := by decide +kernel
theorem dX1_readPages_135 : decode cX1_readPages 135 = .ok (.iconst 0, 1) := by decide +kernel
theorem dX1_readPages_136 : decode cX1_readPages 136 = .ok (.iadd, 1) := by decide +kernel
theorem dX1_readPages_137 : decode cX1_readPages 137 = .ok (.putfield 42, 3) := by decide +kernel
theorem dX1_readPages_140 : decode cX1_readPages 140 = .ok (.aload_n 0, 1) := by decide +kernel
theorem dX1_readPages_141 : decode cX1_readPages 141 = .ok (.getfield 12, 3) := by decide +kernel
theorem dX1_readPages_144 : decode cX1_readPages 144 = .ok (.aload_n 1, 1) := by decide +kernel
theorem dX1_readPages_145 : decode cX1_readPages 145 = .ok (.getfield 73, 3) := by decide +kernel
theorem dX1_readPages_148 : decode cX1_readPages 148 = .ok (.putfield 78, 3) := by decide +kernel
theorem dX1_readPages_151 : decode cX1_readPages 151 = .ok (.iinc 4 1, 3) := by decide +kernel
theorem dX1_readPages_154 : decode cX1_readPages 154 = .ok (.goto (-115), 3) := by decide +kernel
theorem dX1_readPages_157 : decode cX1_readPages 157 = .ok (.return_, 1) := by decide +kernel
theorem dX1_readHead_0 : decode cX1_readHead 0 = .ok (.aload_n 0, 1) := by decide +kernel
theorem dX1_readHead_1 : decode cX1_readHead 1 = .ok (.getfield 12, 3) := by decide +kernel
theorem dX1_readHead_4 : decode cX1_readHead 4 = .ok (.getfield 81, 3) := by decide +kernel
theorem dX1_readHead_7 : decode cX1_readHead 7 = .ok (.istore_n 1, 1) := by decide +kernel
theorem dX1_readHead_8 : decode cX1_readHead 8 = .ok (.aload_n 0, 1) := by decide +kernel
theorem dX1_readHead_9 : decode cX1_readHead 9 = .ok (.invokevirtual 84, 3) := by decide +kernel
theorem dX1_readHead_12 : decode cX1_readHead 12 = .ok (.lstore_n 2, 1) := by decide +kernel
theorem dX1_readHead_13 : decode cX1_readHead 13 = .ok (.lload_n 2, 1) := by decide +kernel
theorem dX1_readHead_14 : decode cX1_readHead 14 = .ok (.lconst 0, 1) := by decide +kernel
theorem dX1_readHead_15 : decode cX1_readHead 15 = .ok (.lcmp, 1) := by decide +kernel
theorem dX1_readHead_16 : decode cX1_readHead 16 = .ok (.ifCond .ne 7, 3) := by decide +kernel
theorem dX1_readHead_19 : decode cX1_readHead 19 = .ok (.iconst 1, 1) := by decide +kernel
theorem dX1_readHead_20 : decode cX1_readHead 20 = .ok (.goto 4, 3) := by decide +kernel
theorem dX1_readHead_23 : decode cX1_readHead 23 = .ok (.iconst 0, 1) := by decide +kernel
theorem dX1_readHead_24 : decode cX1_readHead 24 = .ok (.istore 4, 2) := by decide +kernel
theorem dX1_readHead_26 : decode cX1_readHead 26 = .ok (.aload_n 0, 1) := by decide +kernel
theorem dX1_readHead_27 : decode cX1_readHead 27 = .ok (.getfield 12, 3) := by decide +kernel
theorem dX1_readHead_30 : decode cX1_readHead 30 = .ok (.iload 4, 2) := by decide +kernel
theorem dX1_readHead_32 : decode cX1_readHead 32 = .ok (.ifCond .ne 22, 3) := by decide +kernel
theorem dX1_readHead_35 : decode cX1_readHead 35 = .ok (.lload_n 2, 1) := by decide +kernel
theorem dX1_readHead_36 : decode cX1_readHead 36 = .ok (.ldc2_w 88, 3) := by decide +kernel
theorem dX1_readHead_39 : decode cX1_readHead 39 = .ok (.lcmp, 1) := by decide +kernel
theorem dX1_readHead_40 : decode cX1_readHead 40 = .ok (.ifCond .ne 18, 3) := by decide +kernel
theorem dX1_readHead_43 : decode cX1_readHead 43 = .ok (.aload_n 0, 1) := by decide +kernel
theorem dX1_readHead_44 : decode cX1_readHead 44 = .ok (.getfield 21, 3) := by decide +kernel
theorem dX1_readHead_47 : decode cX1_readHead 47 = .ok (.getfield 90, 3) := by decide +kernel
theorem dX1_readHead_50 : decode cX1_readHead 50 = .ok (.iconst 3, 1) := by decide +kernel
theorem dX1_readHead_51 : decode cX1_readHead 51 = .ok (.if_icmp .eq 7, 3) := by decide +kernel
theorem dX1_readHead_54 : decode cX1_readHead 54 = .ok (.iconst 1, 1) := by decide +kernel
theorem dX1_readHead_55 : decode cX1_readHead 55 = .ok (.goto 4, 3) := by decide +kernel
theorem dX1_readHead_58 : decode cX1_readHead 58 = .ok (.iconst 0, 1) := by decide +kernel
theorem dX1_readHead_59 : decode cX1_readHead 59 = .ok (.bipush 8, 2) := by decide +kernel
theorem dX1_readHead_61 : decode cX1_readHead 61 = .ok (.aload_n 0, 1) := by decide +kernel
theorem dX1_readHead_62 : decode cX1_readHead 62 = .ok (.getfield 93, 3) := by decide +kernel
theorem dX1_readHead_65 : decode cX1_readHead 65 = .ok (.invokevirtual 96, 3) := by decide +kernel
theorem dX1_readHead_68 : decode cX1_readHead 68 = .ok (.aload_n 0, 1) := by decide +kernel
theorem dX1_readHead_69 : decode cX1_readHead 69 = .ok (.getfield 12, 3) := by decide +kernel
theorem dX1_readHead_72 : decode cX1_readHead 72 = .ok (.iload 4, 2) := by decide +kernel
theorem dX1_readHead_74 : decode cX1_readHead 74 = .ok (.ifCond .ne 10, 3) := by decide +kernel
theorem dX1_readHead_77 : decode cX1_readHead 77 = .ok (.aload_n 0, 1) := by decide +kernel
theorem dX1_readHead_78 : decode cX1_readHead 78 = .ok (.getfield 42, 3) := by decide +kernel
theorem dX1_readHead_81 : decode cX1_readHead 81 = .ok (.ifCond .ne 7, 3) := by decide +kernel
theorem dX1_readHead_84 : decode cX1_readHead 84 = .ok (.iconst 1, 1) := by decide +kernel
theorem dX1_readHead_85 : decode cX1_readHead 85 = .ok (.goto 4, 3) := by decide +kernel
theorem dX1_readHead_88 : decode cX1_readHead 88 = .ok (.iconst 0, 1) := by decide +kernel
theorem dX1_readHead_89 : decode cX1_readHead 89 = .ok (.bipush 9, 2) := by decide +kernel
theorem dX1_readHead_91 : decode cX1_readHead 91 = .ok (.iload_n 1, 1) := by decide +kernel
theorem dX1_readHead_92 : decode cX1_readHead 92 = .ok (.invokevirtual 96, 3) := by decide +kernel
theorem dX1_readHead_95 : decode cX1_readHead 95 = .ok (.aload_n 0, 1) := by decide +kernel
theorem dX1_readHead_96 : decode cX1_readHead 96 = .ok (.invokevirtual 84, 3) := by decide +kernel
theorem dX1_readHead_99 : decode cX1_readHead 99 = .ok (.lstore 5, 2) := by decide +kernel
theorem dX1_readHead_101 : decode cX1_readHead 101 = .ok (.aload_n 0, 1) := by decide +kernel
theorem dX1_readHead_102 : decode cX1_readHead 102 = .ok (.getfield 12, 3) := by decide +kernel
theorem dX1_readHead_105 : decode cX1_readHead 105 = .ok (.lload 5, 2) := by decide +kernel
theorem dX1_readHead_107 : decode cX1_readHead 107 = .ok (.lconst 0, 1) := by decide +kernel
theorem dX1_readHead_108 : decode cX1_readHead 108 = .ok (.lcmp, 1) := by decide +kernel
theorem dX1_readHead_109 : decode cX1_readHead 109 = .ok (.ifCond .lt 21, 3) := by decide +kernel
theorem dX1_readHead_112 : decode cX1_readHead 112 = .ok (.lload 5, 2) := by decide +kernel
theorem dX1_readHead_114 : decode cX1_readHead 114 = .ok (.aload_n 0, 1) := by decide +kernel
theorem dX1_readHead_115 : decode cX1_readHead 115 = .ok (.getfield 12, 3) := by decide +kernel
theorem dX1_readHead_118 : decode cX1_readHead 118 = .ok (.invokevirtual 54, 3) := by decide +kernel
theorem dX1_readHead_121 : decode cX1_readHead 121 = .ok (.i2l, 1) := by decide +kernel
theorem dX1_readHead_122 : decode cX1_readHead 122 = .ok (.lcmp, 1) := by decide +kernel
theorem dX1_readHead_123 : decode cX1_readHead 123 = .ok (.ifCond .gt 7, 3) := by decide +kernel
theorem dX1_readHead_126 : decode cX1_readHead 126 = .ok (.iconst 1, 1) := by decide +kernel
theorem dX1_readHead_127 : decode cX1_readHead 127 = .ok (.goto 4, 3) := by decide +kernel
theorem dX1_readHead_130 : decode cX1_readHead 130 = .ok (.iconst 0, 1) := by decide +kernel
theorem dX1_readHead_131 : decode cX1_readHead 131 = .ok (.bipush 8, 2) := by decide +kernel
theorem dX1_readHead_133 : decode cX1_readHead 133 = .ok (.aload_n 0, 1) := by decide +kernel
theorem dX1_readHead_134 : decode cX1_readHead 134 = .ok (.getfield 93, 3) := by decide +kernel
theorem dX1_readHead_137 : decode cX1_readHead 137 = .ok (.invokevirtual 96, 3) := by decide +kernel
theorem dX1_readHead_140 : decode cX1_readHead 140 = .ok (.aload_n 0, 1) := by decide +kernel
theorem dX1_readHead_141 : decode cX1_readHead 141 = .ok (.invokevirtual 84, 3) := by decide +kernel
theorem dX1_readHead_144 : decode cX1_readHead 144 = .ok (.lstore 7, 2) := by decide +kernel
theorem dX1_readHead_146 : decode cX1_readHead 146 = .ok (.aload_n 0, 1) := by decide +kernel
theorem dX1_readHead_147 : decode cX1_readHead 147 = .ok (.getfield 12, 3) := by decide +kernel
theorem dX1_readHead_150 : decode cX1_readHead 150 = .ok (.lload 7, 2) := by decide +kernel
theorem dX1_readHead_152 : decode cX1_readHead 152 = .ok (.lload 5, 2) := by decide +kernel
theorem dX1_readHead_154 : decode cX1_readHead 154 = .ok (.lcmp, 1) := by decide +kernel
theorem dX1_readHead_155 : decode cX1_readHead 155 = .ok (.ifCond .ne 7, 3) := by decide +kernel
theorem dX1_readHead_158 : decode cX1_readHead 158 = .ok (.iconst 1, 1) := by decide +kernel
theorem dX1_readHead_159 : decode cX1_readHead 159 = .ok (.goto 4, 3) := by decide +kernel
theorem dX1_readHead_162 : decode cX1_readHead 162 = .ok (.iconst 0, 1) := by decide +kernel
theorem dX1_readHead_163 : decode cX1_readHead 163 = .ok (.bipush 8, 2) := by decide +kernel
theorem dX1_readHead_165 : decode cX1_readHead 165 = .ok (.aload_n 0, 1) := by decide +kernel
theorem dX1_readHead_166 : decode cX1_readHead 166 = .ok (.getfield 93, 3) := by decide +kernel
theorem dX1_readHead_169 : decode cX1_readHead 169 = .ok (.invokevirtual 96, 3) := by decide +kernel
theorem dX1_readHead_172 : decode cX1_readHead 172 = .ok (.aload_n 0, 1) := by decide +kernel
theorem dX1_readHead_173 : decode cX1_readHead 173 = .ok (.getfield 12, 3) := by decide +kernel
theorem dX1_readHead_176 : decode cX1_readHead 176 = .ok (.iload 4, 2) := by decide +kernel
theorem dX1_readHead_178 : decode cX1_readHead 178 = .ok (.ifCond .eq 8, 3) := by decide +kernel
theorem dX1_readHead_181 : decode cX1_readHead 181 = .ok (.bipush 44, 2) := by decide +kernel
theorem dX1_readHead_183 : decode cX1_readHead 183 = .ok (.goto 5, 3) := by decide +kernel
theorem dX1_readHead_186 : decode cX1_readHead 186 = .ok (.bipush 76, 2) := by decide +kernel
theorem dX1_readHead_188 : decode cX1_readHead 188 = .ok (.invokevirtual 100, 3) := by decide +kernel
theorem dX1_readHead_191 : decode cX1_readHead 191 = .ok (.aload_n 0, 1) := by decide +kernel
theorem dX1_readHead_192 : decode cX1_readHead 192 = .ok (.invokevirtual 84, 3) := by decide +kernel
theorem dX1_readHead_195 : decode cX1_readHead 195 = .ok (.lstore 9, 2) := by decide +kernel
theorem dX1_readHead_197 : decode cX1_readHead 197 = .ok (.iload 4, 2) := by decide +kernel
theorem dX1_readHead_199 : decode cX1_readHead 199 = .ok (.ifCond .eq 17, 3) := by decide +kernel
theorem dX1_readHead_202 : decode cX1_readHead 202 = .ok (.sipush 200, 3) := by decide +kernel
theorem dX1_readHead_205 : decode cX1_readHead 205 = .ok (.aload_n 0, 1) := by decide +kernel
theorem dX1_readHead_206 : decode cX1_readHead 206 = .ok (.getfield 21, 3) := by decide +kernel
theorem dX1_readHead_209 : decode cX1_readHead 209 = .ok (.getfield 104, 3) := by decide +kernel
theorem dX1_readHead_212 : decode cX1_readHead 212 = .ok (.isub, 1) := by decide +kernel
theorem dX1_readHead_213 : decode cX1_readHead 213 = .ok (.goto 6, 3) := by decide +kernel
theorem dX1_readHead_216 : decode cX1_readHead 216 = .ok (.sipush 200, 3) := by decide +kernel
theorem dX1_readHead_219 : decode cX1_readHead 219 = .ok (.istore 11, 2) := by decide +kernel
theorem dX1_readHead_221 : decode cX1_readHead 221 = .ok (.aload_n 0, 1) := by decide +kernel
theorem dX1_readHead_222 : decode cX1_readHead 222 = .ok (.getfield 12, 3) := by decide +kernel
theorem dX1_readHead_225 : decode cX1_readHead 225 = .ok (.lload 9, 2) := by decide +kernel
theorem dX1_readHead_227 : decode cX1_readHead 227 = .ok (.lconst 0, 1) := by decide +kernel
theorem dX1_readHead_228 : decode cX1_readHead 228 = .ok (.lcmp, 1) := by decide +kernel
theorem dX1_readHead_229 : decode cX1_readHead 229 = .ok (.ifCond .lt 16, 3) := by decide +kernel
theorem dX1_readHead_232 : decode cX1_readHead 232 = .ok (.lload 9, 2) := by decide +kernel
theorem dX1_readHead_234 : decode cX1_readHead 234 = .ok (.iload 11, 2) := by decide +kernel
theorem dX1_readHead_236 : decode cX1_readHead 236 = .ok (.i2l, 1) := by decide +kernel
theorem dX1_readHead_237 : decode cX1_readHead 237 = .ok (.lcmp, 1) := by decide +kernel
theorem dX1_readHead_238 : decode cX1_readHead 238 = .ok (.ifCond .gt 7, 3) := by decide +kernel
theorem dX1_readHead_241 : decode cX1_readHead 241 = .ok (.iconst 1, 1) := by decide +kernel
theorem dX1_readHead_242 : decode cX1_readHead 242 = .ok (.goto 4, 3) := by decide +kernel
theorem dX1_readHead_245 : decode cX1_readHead 245 = .ok (.iconst 0, 1) := by decide +kernel
theorem dX1_readHead_246 : decode cX1_readHead 246 = .ok (.bipush 8, 2) := by decide +kernel
theorem dX1_readHead_248 : decode cX1_readHead 248 = .ok (.aload_n 0, 1) := by decide +kernel
theorem dX1_readHead_249 : decode cX1_readHead 249 = .ok (.getfield 93, 3) := by decide +kernel
theorem dX1_readHead_252 : decode cX1_readHead 252 = .ok (.invokevirtual 96, 3) := by decide +kernel
theorem dX1_readHead_255 : decode cX1_readHead 255 = .ok (.aload_n 0, 1) := by decide +kernel
theorem dX1_readHead_256 : decode cX1_readHead 256 = .ok (.invokevirtual 84, 3) := by decide +kernel
theorem dX1_readHead_259 : decode cX1_readHead 259 = .ok (.lstore 12, 2) := by decide +kernel
theorem dX1_readHead_261 : decode cX1_readHead 261 = .ok (.aload_n 0, 1) := by decide +kernel
theorem dX1_readHead_262 : decode cX1_readHead 262 = .ok (.getfield 12, 3) := by decide +kernel
theorem dX1_readHead_265 : decode cX1_readHead 265 = .ok (.iload 4, 2) := by decide +kernel
theorem dX1_readHead_267 : decode cX1_readHead 267 = .ok (.ifCond .eq 12, 3) := by decide +kernel
theorem dX1_readHead_270 : decode cX1_readHead 270 = .ok (.aload_n 0, 1) := by decide +kernel
theorem dX1_readHead_271 : decode cX1_readHead 271 = .ok (.lload 12, 2) := by decide +kernel
theorem dX1_readHead_273 : decode cX1_readHead 273 = .ok (.invokevirtual 105, 3) := by decide +kernel
theorem dX1_readHead_276 : decode cX1_readHead 276 = .ok (.goto 15, 3) := by decide +kernel
theorem dX1_readHead_279 : decode cX1_readHead 279 = .ok (.lload 12, 2) := by decide +kernel
theorem dX1_readHead_281 : decode cX1_readHead 281 = .ok (.lconst 0, 1) := by decide +kernel
theorem dX1_readHead_282 : decode cX1_readHead 282 = .ok (.lcmp, 1) := by decide +kernel
theorem dX1_readHead_283 : decode cX1_readHead 283 = .ok (.ifCond .ne 7, 3) := by decide +kernel
theorem dX1_readHead_286 : decode cX1_readHead 286 = .ok (.iconst 1, 1) := by decide +kernel
theorem dX1_readHead_287 : decode cX1_readHead 287 = .ok (.goto 4, 3) := by decide +kernel
theorem dX1_readHead_290 : decode cX1_readHead 290 = .ok (.iconst 0, 1) := by decide +kernel
theorem dX1_readHead_291 : decode cX1_readHead 291 = .ok (.bipush 8, 2) := by decide +kernel
theorem dX1_readHead_293 : decode cX1_readHead 293 = .ok (.aload_n 0, 1) := by decide +kernel
theorem dX1_readHead_294 : decode cX1_readHead 294 = .ok (.getfield 93, 3) := by decide +kernel
theorem dX1_readHead_297 : decode cX1_readHead 297 = .ok (.invokevirtual 96, 3) := by decide +kernel
theorem dX1_readHead_300 : decode cX1_readHead 300 = .ok (.aload_n 0, 1) := by decide +kernel
theorem dX1_readHead_301 : decode cX1_readHead 301 = .ok (.getfield 12, 3) := by decide +kernel
theorem dX1_readHead_304 : decode cX1_readHead 304 = .ok (.iconst 0, 1) := by decide +kernel
theorem dX1_readHead_305 : decode cX1_readHead 305 = .ok (.invokevirtual 100, 3) := by decide +kernel
theorem dX1_readHead_308 : decode cX1_readHead 308 = .ok (.aload_n 0, 1) := by decide +kernel
theorem dX1_readHead_309 : decode cX1_readHead 309 = .ok (.getfield 12, 3) := by decide +kernel
theorem dX1_readHead_312 : decode cX1_readHead 312 = .ok (.iconst 0, 1) := by decide +kernel
theorem dX1_readHead_313 : decode cX1_readHead 313 = .ok (.invokevirtual 100, 3) := by decide +kernel
theorem dX1_readHead_316 : decode cX1_readHead 316 = .ok (.aload_n 0, 1) := by decide +kernel
theorem dX1_readHead_317 : decode cX1_readHead 317 = .ok (.getfield 12, 3) := by decide +kernel
theorem dX1_readHead_320 : decode cX1_readHead 320 = .ok (.lload 5, 2) := by decide +kernel
theorem dX1_readHead_322 : decode cX1_readHead 322 = .ok (.aload_n 0, 1) := by decide +kernel
theorem dX1_readHead_323 : decode cX1_readHead 323 = .ok (.getfield 12, 3) := by decide +kernel
theorem dX1_readHead_326 : decode cX1_readHead 326 = .ok (.invokevirtual 54, 3) := by decide +kernel
theorem dX1_readHead_329 : decode cX1_readHead 329 = .ok (.i2l, 1) := by decide +kernel
theorem dX1_readHead_330 : decode cX1_readHead 330 = .ok (.lcmp, 1) := by decide +kernel
theorem dX1_readHead_331 : decode cX1_readHead 331 = .ok (.ifCond .gt 7, 3) := by decide +kernel
theorem dX1_readHead_334 : decode cX1_readHead 334 = .ok (.iconst 1, 1) := by decide +kernel
theorem dX1_readHead_335 : decode cX1_readHead 335 = .ok (.goto 4, 3) := by decide +kernel
theorem dX1_readHead_338 : decode cX1_readHead 338 = .ok (.iconst 0, 1) := by decide +kernel
theorem dX1_readHead_339 : decode cX1_readHead 339 = .ok (.iconst 1, 1) := by decide +kernel
theorem dX1_readHead_340 : decode cX1_readHead 340 = .ok (.aload_n 0, 1) := by decide +kernel
theorem dX1_readHead_341 : decode cX1_readHead 341 = .ok (.getfield 12, 3) := by decide +kernel
theorem dX1_readHead_344 : decode cX1_readHead 344 = .ok (.getfield 78, 3) := by decide +kernel
theorem dX1_readHead_347 : decode cX1_readHead 347 = .ok (.invokevirtual 96, 3) := by decide +kernel
theorem dX1_readHead_350 : decode cX1_readHead 350 = .ok (.aload_n 0, 1) := by decide +kernel
theorem dX1_readHead_351 : decode cX1_readHead 351 = .ok (.getfield 12, 3) := by decide +kernel
theorem dX1_readHead_354 : decode cX1_readHead 354 = .ok (.invokevirtual 50, 3) := by decide +kernel
theorem dX1_readHead_357 : decode cX1_readHead 357 = .ok (.ifCond .eq 49, 3) := by decide +kernel
theorem dX1_readHead_360 : decode cX1_readHead 360 = .ok (.aload_n 0, 1) := by decide +kernel
theorem dX1_readHead_361 : decode cX1_readHead 361 = .ok (.iload 4, 2) := by decide +kernel
theorem dX1_readHead_363 : decode cX1_readHead 363 = .ok (.ifCond .ne 7, 3) := by decide +kernel
theorem dX1_readHead_366 : decode cX1_readHead 366 = .ok (.iconst 1, 1) := by decide +kernel
theorem dX1_readHead_367 : decode cX1_readHead 367 = .ok (.goto 4, 3) := by decide +kernel
theorem dX1_readHead_370 : decode cX1_readHead 370 = .ok (.iconst 0, 1) := by decide +kernel
theorem dX1_readHead_371 : decode cX1_readHead 371 = .ok (.putfield 61, 3) := by decide +kernel
theorem dX1_readHead_374 : decode cX1_readHead 374 = .ok (.aload_n 0, 1) := by decide +kernel
theorem dX1_readHead_375 : decode cX1_readHead 375 = .ok (.lload 9, 2) := by decide +kernel
theorem dX1_readHead_377 : decode cX1_readHead 377 = .ok (.l2i, 1) := by decide +kernel
theorem dX1_readHead_378 : decode cX1_readHead 378 = .ok (.putfield 109, 3) := by decide +kernel
theorem dX1_readHead_381 : decode cX1_readHead 381 = .ok (.aload_n 0, 1) := by decide +kernel
theorem dX1_readHead_382 : decode cX1_readHead 382 = .ok (.lload 12, 2) := by decide +kernel
theorem dX1_readHead_384 : decode cX1_readHead 384 = .ok (.l2i, 1) := by decide +kernel
theorem dX1_readHead_385 : decode cX1_readHead 385 = .ok (.putfield 112, 3) := by decide +kernel
theorem dX1_readHead_388 : decode cX1_readHead 388 = .ok (.aload_n 0, 1) := by decide +kernel
theorem dX1_readHead_389 : decode cX1_readHead 389 = .ok (.getfield 12, 3) := by decide +kernel
theorem dX1_readHead_392 : decode cX1_readHead 392 = .ok (.aload_n 0, 1) := by decide +kernel
theorem dX1_readHead_393 : decode cX1_readHead 393 = .ok (.getfield 12, 3) := by decide +kernel
theorem dX1_readHead_396 : decode cX1_readHead 396 = .ok (.getfield 81, 3) := by decide +kernel
theorem dX1_readHead_399 : decode cX1_readHead 399 = .ok (.lload 5, 2) := by decide +kernel
theorem dX1_readHead_401 : decode cX1_readHead 401 = .ok (.l2i, 1) := by decide +kernel
theorem dX1_readHead_402 : decode cX1_readHead 402 = .ok (.iadd, 1) := by decide +kernel
theorem dX1_readHead_403 : decode cX1_readHead 403 = .ok (.putfield 78, 3) := by decide +kernel
theorem dX1_readHead_406 : decode cX1_readHead 406 = .ok (.return_, 1) := by decide +kernel
theorem dX1_nextZigField_0 : decode cX1_nextZigField 0 = .ok (.aload_n 0, 1) := by decide +kernel
theorem dX1_nextZigField_1 : decode cX1_nextZigField 1 = .ok (.getfield 12, 3) := by decide +kernel
theorem dX1_nextZigField_4 : decode cX1_nextZigField 4 = .ok (.bipush 21, 2) := by decide +kernel
theorem dX1_nextZigField_6 : decode cX1_nextZigField 6 = .ok (.invokevirtual 100, 3) := by decide +kernel
theorem dX1_nextZigField_9 : decode cX1_nextZigField 9 = .ok (.aload_n 0, 1) := by decide +kernel
theorem dX1_nextZigField_10 : decode cX1_nextZigField 10 = .ok (.aload_n 0, 1) := by decide +kernel
theorem dX1_nextZigField_11 : decode cX1_nextZigField 11 = .ok (.getfield 12, 3) := by decide +kernel
theorem dX1_nextZigField_14 : decode cX1_nextZigField 14 = .ok (.getfield 81, 3) := by decide +kernel
theorem dX1_nextZigField_17 : decode cX1_nextZigField 17 = .ok (.putfield 93, 3) := by decide +kernel
theorem dX1_nextZigField_20 : decode cX1_nextZigField 20 = .ok (.aload_n 0, 1) := by decide +kernel
theorem dX1_nextZigField_21 : decode cX1_nextZigField 21 = .ok (.getfield 12, 3) := by decide +kernel
theorem dX1_nextZigField_24 : decode cX1_nextZigField 24 = .ok (.invokevirtual 115, 3) := by decide +kernel
theorem dX1_nextZigField_27 : decode cX1_nextZigField 27 = .ok (.invokestatic 118, 3) := by decide +kernel
theorem dX1_nextZigField_30 : decode cX1_nextZigField 30 = .ok (.lreturn, 1) := by decide +kernel
theorem dX1_isDataCode_0 : decode cX1_isDataCode 0 = .ok (.lload_n 1, 1) := by decide +kernel
theorem dX1_isDataCode_1 : decode cX1_isDataCode 1 = .ok (.ldc2_w 122, 3) := by decide +kernel
theorem dX1_isDataCode_4 : decode cX1_isDataCode 4 = .ok (.lcmp, 1) := by decide +kernel
theorem dX1_isDataCode_5 : decode cX1_isDataCode 5 = .ok (.ifCond .ne 30, 3) := by decide +kernel
theorem dX1_isDataCode_8 : decode cX1_isDataCode 8 = .ok (.aload_n 0, 1) := by decide +kernel
theorem dX1_isDataCode_9 : decode cX1_isDataCode 9 = .ok (.getfield 21, 3) := by decide +kernel
theorem dX1_isDataCode_12 : decode cX1_isDataCode 12 = .ok (.getfield 90, 3) := by decide +kernel
theorem dX1_isDataCode_15 : decode cX1_isDataCode 15 = .ok (.ifCond .eq 14, 3) := by decide +kernel
theorem dX1_isDataCode_18 : decode cX1_isDataCode 18 = .ok (.aload_n 0, 1) := by decide +kernel
theorem dX1_isDataCode_19 : decode cX1_isDataCode 19 = .ok (.getfield 21, 3) := by decide +kernel
theorem dX1_isDataCode_22 : decode cX1_isDataCode 22 = .ok (.getfield 90, 3) := by decide +kernel
theorem dX1_isDataCode_25 : decode cX1_isDataCode 25 = .ok (.iconst 1, 1) := by decide +kernel
theorem dX1_isDataCode_26 : decode cX1_isDataCode 26 = .ok (.if_icmp .ne 7, 3) := by decide +kernel
theorem dX1_isDataCode_29 : decode cX1_isDataCode 29 = .ok (.iconst 1, 1) := by decide +kernel
theorem dX1_isDataCode_30 : decode cX1_isDataCode 30 = .ok (.goto 4, 3) := by decide +kernel
theorem dX1_isDataCode_33 : decode cX1_isDataCode 33 = .ok (.iconst 0, 1) := by decide +kernel
theorem dX1_isDataCode_34 : decode cX1_isDataCode 34 = .ok (.ireturn, 1) := by decide +kernel
theorem dX1_isDataCode_35 : decode cX1_isDataCode 35 = .ok (.lload_n 1, 1) := by decide +kernel
theorem dX1_isDataCode_36 : decode cX1_isDataCode 36 = .ok (.ldc2_w 124, 3) := by decide +kernel
theorem dX1_isDataCode_39 : decode cX1_isDataCode 39 = .ok (.lcmp, 1) := by decide +kernel
theorem dX1_isDataCode_40 : decode cX1_isDataCode 40 = .ok (.ifCond .ne 20, 3) := by decide +kernel
theorem dX1_isDataCode_43 : decode cX1_isDataCode 43 = .ok (.aload_n 0, 1) := by decide +kernel
theorem dX1_isDataCode_44 : decode cX1_isDataCode 44 = .ok (.getfield 21, 3) := by decide +kernel
theorem dX1_isDataCode_47 : decode cX1_isDataCode 47 = .ok (.getfield 90, 3) := by decide +kernel
theorem dX1_isDataCode_50 : decode cX1_isDataCode 50 = .ok (.iconst 2, 1) := by decide +kernel
theorem dX1_isDataCode_51 : decode cX1_isDataCode 51 = .ok (.if_icmp .ne 7, 3) := by decide +kernel
theorem dX1_isDataCode_54 : decode cX1_isDataCode 54 = .ok (.iconst 1, 1) := by decide +kernel
theorem dX1_isDataCode_55 : decode cX1_isDataCode 55 = .ok (.goto 4, 3) := by decide +kernel
theorem dX1_isDataCode_58 : decode cX1_isDataCode 58 = .ok (.iconst 0, 1) := by decide +kernel
theorem dX1_isDataCode_59 : decode cX1_isDataCode 59 = .ok (.ireturn, 1) := by decide +kernel
theorem dX1_isDataCode_60 : decode cX1_isDataCode 60 = .ok (.lload_n 1, 1) := by decide +kernel
theorem dX1_isDataCode_61 : decode cX1_isDataCode 61 = .ok (.ldc2_w 126, 3) := by decide +kernel
theorem dX1_isDataCode_64 : decode cX1_isDataCode 64 = .ok (.lcmp, 1) := by decide +kernel
theorem dX1_isDataCode_65 : decode cX1_isDataCode 65 = .ok (.ifCond .ne 20, 3) := by decide +kernel
theorem dX1_isDataCode_68 : decode cX1_isDataCode 68 = .ok (.aload_n 0, 1) := by decide +kernel
theorem dX1_isDataCode_69 : decode cX1_isDataCode 69 = .ok (.getfield 21, 3) := by decide +kernel
theorem dX1_isDataCode_72 : decode cX1_isDataCode 72 = .ok (.getfield 90, 3) := by decide +kernel
theorem dX1_isDataCode_75 : decode cX1_isDataCode 75 = .ok (.iconst 3, 1) := by decide +kernel
theorem dX1_isDataCode_76 : decode cX1_isDataCode 76 = .ok (.if_icmp .ne 7, 3) := by decide +kernel
theorem dX1_isDataCode_79 : decode cX1_isDataCode 79 = .ok (.iconst 1, 1) := by decide +kernel
theorem dX1_isDataCode_80 : decode cX1_isDataCode 80 = .ok (.goto 4, 3) := by decide +kernel
theorem dX1_isDataCode_83 : decode cX1_isDataCode 83 = .ok (.iconst 0, 1) := by decide +kernel
theorem dX1_isDataCode_84 : decode cX1_isDataCode 84 = .ok (.ireturn, 1) := by decide +kernel
theorem dX1_isDataCode_85 : decode cX1_isDataCode 85 = .ok (.lload_n 1, 1) := by decide +kernel
theorem dX1_isDataCode_86 : decode cX1_isDataCode 86 = .ok (.ldc2_w 128, 3) := by decide +kernel
theorem dX1_isDataCode_89 : decode cX1_isDataCode 89 = .ok (.lcmp, 1) := by decide +kernel
theorem dX1_isDataCode_90 : decode cX1_isDataCode 90 = .ok (.ifCond .ne 8, 3) := by decide +kernel
theorem dX1_isDataCode_93 : decode cX1_isDataCode 93 = .ok (.aload_n 0, 1) := by decide +kernel
theorem dX1_isDataCode_94 : decode cX1_isDataCode 94 = .ok (.getfield 46, 3) := by decide +kernel
theorem dX1_isDataCode_97 : decode cX1_isDataCode 97 = .ok (.ireturn, 1) := by decide +kernel
theorem dX1_isDataCode_98 : decode cX1_isDataCode 98 = .ok (.lload_n 1, 1) := by decide +kernel
theorem dX1_isDataCode_99 : decode cX1_isDataCode 99 = .ok (.lconst 0, 1) := by decide +kernel
theorem dX1_isDataCode_100 : decode cX1_isDataCode 100 = .ok (.lcmp, 1) := by decide +kernel
theorem dX1_isDataCode_101 : decode cX1_isDataCode 101 = .ok (.ifCond .ne 7, 3) := by decide +kernel
theorem dX1_isDataCode_104 : decode cX1_isDataCode 104 = .ok (.iconst 1, 1) := by decide +kernel
theorem dX1_isDataCode_105 : decode cX1_isDataCode 105 = .ok (.goto 4, 3) := by decide +kernel
theorem dX1_isDataCode_108 : decode cX1_isDataCode 108 = .ok (.iconst 0, 1) := by decide +kernel
theorem dX1_isDataCode_109 : decode cX1_isDataCode 109 = .ok (.ireturn, 1) := by decide +kernel
theorem dX1_readDictionary_0 : decode cX1_readDictionary 0 = .ok (.aload_n 0, 1) := by decide +kernel
theorem dX1_readDictionary_1 : decode cX1_readDictionary 1 = .ok (.aload_n 0, 1) := by decide +kernel
theorem dX1_readDictionary_2 : decode cX1_readDictionary 2 = .ok (.getfield 25, 3) := by decide +kernel
theorem dX1_readDictionary_5 : decode cX1_readDictionary 5 = .ok (.aload_n 0, 1) := by decide +kernel
theorem dX1_readDictionary_6 : decode cX1_readDictionary 6 = .ok (.getfield 109, 3) := by decide +kernel
theorem dX1_readDictionary_9 : decode cX1_readDictionary 9 = .ok (.invokevirtual 130, 3) := by decide +kernel
theorem dX1_readDictionary_12 : decode cX1_readDictionary 12 = .ok (.aload_n 0, 1) := by decide +kernel
theorem dX1_readDictionary_13 : decode cX1_readDictionary 13 = .ok (.getfield 12, 3) := by decide +kernel
theorem dX1_readDictionary_16 : decode cX1_readDictionary 16 = .ok (.invokevirtual 50, 3) := by decide +kernel
theorem dX1_readDictionary_19 : decode cX1_readDictionary 19 = .ok (.ifCond .eq 11, 3) := by decide +kernel
theorem dX1_readDictionary_22 : decode cX1_readDictionary 22 = .ok (.aload_n 0, 1) := by decide +kernel
theorem dX1_readDictionary_23 : decode cX1_readDictionary 23 = .ok (.iconst 1, 1) := by decide +kernel
theorem dX1_readDictionary_24 : decode cX1_readDictionary 24 = .ok (.putfield 46, 3) := by decide +kernel
theorem dX1_readDictionary_27 : decode cX1_readDictionary 27 = .ok (.goto 11, 3) := by decide +kernel
theorem dX1_readDictionary_30 : decode cX1_readDictionary 30 = .ok (.aload_n 0, 1) := by decide +kernel
theorem dX1_readDictionary_31 : decode cX1_readDictionary 31 = .ok (.getfield 25, 3) := by decide +kernel
theorem dX1_readDictionary_34 : decode cX1_readDictionary 34 = .ok (.iconst 0, 1) := by decide +kernel
theorem dX1_readDictionary_35 : decode cX1_readDictionary 35 = .ok (.putfield 104, 3) := by decide +kernel
theorem dX1_readDictionary_38 : decode cX1_readDictionary 38 = .ok (.return_, 1) := by decide +kernel
theorem dX1_readData_0 : decode cX1_readData 0 = .ok (.aload_n 0, 1) := by decide +kernel
theorem dX1_readData_1 : decode cX1_readData 1 = .ok (.getfield 21, 3) := by decide +kernel
theorem dX1_readData_4 : decode cX1_readData 4 = .ok (.getfield 104, 3) := by decide +kernel
theorem dX1_readData_7 : decode cX1_readData 7 = .ok (.istore_n 1, 1) := by decide +kernel
theorem dX1_readData_8 : decode cX1_readData 8 = .ok (.aload_n 0, 1) := by decide +kernel
theorem dX1_readData_9 : decode cX1_readData 9 = .ok (.getfield 109, 3) := by decide +kernel
theorem dX1_readData_12 : decode cX1_readData 12 = .ok (.istore_n 2, 1) := by decide +kernel
theorem dX1_readData_13 : decode cX1_readData 13 = .ok (.aload_n 0, 1) := by decide +kernel
theorem dX1_readData_14 : decode cX1_readData 14 = .ok (.getfield 21, 3) := by decide +kernel
theorem dX1_readData_17 : decode cX1_readData 17 = .ok (.getfield 134, 3) := by decide +kernel
theorem dX1_readData_20 : decode cX1_readData 20 = .ok (.ifCond .eq 24, 3) := by decide +kernel
theorem dX1_readData_23 : decode cX1_readData 23 = .ok (.aload_n 0, 1) := by decide +kernel
theorem dX1_readData_24 : decode cX1_readData 24 = .ok (.aload_n 0, 1) := by decide +kernel
theorem dX1_readData_25 : decode cX1_readData 25 = .ok (.getfield 28, 3) := by decide +kernel
theorem dX1_readData_28 : decode cX1_readData 28 = .ok (.aload_n 0, 1) := by decide +kernel
theorem dX1_readData_29 : decode cX1_readData 29 = .ok (.getfield 109, 3) := by decide +kernel
theorem dX1_readData_32 : decode cX1_readData 32 = .ok (.invokevirtual 137, 3) := by decide +kernel
theorem dX1_readData_35 : decode cX1_readData 35 = .ok (.aload_n 0, 1) := by decide +kernel
theorem dX1_readData_36 : decode cX1_readData 36 = .ok (.aload_n 0, 1) := by decide +kernel
theorem dX1_readData_37 : decode cX1_readData 37 = .ok (.getfield 109, 3) := by decide +kernel
theorem dX1_readData_40 : decode cX1_readData 40 = .ok (.invokevirtual 141, 3) := by decide +kernel
theorem dX1_readData_43 : decode cX1_readData 43 = .ok (.istore_n 2, 1) := by decide +kernel
theorem dX1_readData_44 : decode cX1_readData 44 = .ok (.aload_n 0, 1) := by decide +kernel
theorem dX1_readData_45 : decode cX1_readData 45 = .ok (.getfield 112, 3) := by decide +kernel
theorem dX1_readData_48 : decode cX1_readData 48 = .ok (.tableswitch 116 0 6 #[44, 116, 116, 99, 116, 56, 91], 44) := by decide +kernel
theorem dX1_readData_92 : decode cX1_readData 92 = .ok (.aload_n 0, 1) := by decide +kernel
theorem dX1_readData_93 : decode cX1_readData 93 = .ok (.aload_n 0, 1) := by decide +kernel
theorem dX1_readData_94 : decode cX1_readData 94 = .ok (.getfield 21, 3) := by decide +kernel
theorem dX1_readData_97 : decode cX1_readData 97 = .ok (.iload_n 2, 1) := by decide +kernel
theorem dX1_readData_98 : decode cX1_readData 98 = .ok (.invokevirtual 130, 3) := by decide +kernel
theorem dX1_readData_101 : decode cX1_readData 101 = .ok (.goto 68, 3) := by decide +kernel
theorem dX1_readData_104 : decode cX1_readData 104 = .ok (.aload_n 0, 1) := by decide +kernel
theorem dX1_readData_105 : decode cX1_readData 105 = .ok (.getfield 12, 3) := by decide +kernel
theorem dX1_readData_108 : decode cX1_readData 108 = .ok (.aload_n 0, 1) := by decide +kernel
theorem dX1_readData_109 : decode cX1_readData 109 = .ok (.getfield 32, 3) := by decide +kernel
theorem dX1_readData_112 : decode cX1_readData 112 = .ok (.iload_n 2, 1) := by decide +kernel
theorem dX1_readData_113 : decode cX1_readData 113 = .ok (.aload_n 0, 1) := by decide +kernel
theorem dX1_readData_114 : decode cX1_readData 114 = .ok (.getfield 21, 3) := by decide +kernel
theorem dX1_readData_117 : decode cX1_readData 117 = .ok (.getfield 90, 3) := by decide +kernel
theorem dX1_readData_120 : decode cX1_readData 120 = .ok (.ifCond .ne 7, 3) := by decide +kernel
theorem dX1_readData_123 : decode cX1_readData 123 = .ok (.iconst 1, 1) := by decide +kernel
theorem dX1_readData_124 : decode cX1_readData 124 = .ok (.goto 4, 3) := by decide +kernel
theorem dX1_readData_127 : decode cX1_readData 127 = .ok (.iconst 0, 1) := by decide +kernel
theorem dX1_readData_128 : decode cX1_readData 128 = .ok (.invokevirtual 145, 3) := by decide +kernel
theorem dX1_readData_131 : decode cX1_readData 131 = .ok (.aload_n 0, 1) := by decide +kernel
theorem dX1_readData_132 : decode cX1_readData 132 = .ok (.iload_n 2, 1) := by decide +kernel
theorem dX1_readData_133 : decode cX1_readData 133 = .ok (.invokevirtual 149, 3) := by decide +kernel
theorem dX1_readData_136 : decode cX1_readData 136 = .ok (.goto 33, 3) := by decide +kernel
theorem dX1_readData_139 : decode cX1_readData 139 = .ok (.aload_n 0, 1) := by decide +kernel
theorem dX1_readData_140 : decode cX1_readData 140 = .ok (.iload_n 2, 1) := by decide +kernel
theorem dX1_readData_141 : decode cX1_readData 141 = .ok (.invokevirtual 152, 3) := by decide +kernel
theorem dX1_readData_144 : decode cX1_readData 144 = .ok (.goto 25, 3) := by decide +kernel
theorem dX1_readData_147 : decode cX1_readData 147 = .ok (.aload_n 0, 1) := by decide +kernel
theorem dX1_readData_148 : decode cX1_readData 148 = .ok (.aload_n 0, 1) := by decide +kernel
theorem dX1_readData_149 : decode cX1_readData 149 = .ok (.getfield 32, 3) := by decide +kernel
theorem dX1_readData_152 : decode cX1_readData 152 = .ok (.iload_n 2, 1) := by decide +kernel
theorem dX1_readData_153 : decode cX1_readData 153 = .ok (.invokevirtual 137, 3) := by decide +kernel
theorem dX1_readData_156 : decode cX1_readData 156 = .ok (.aload_n 0, 1) := by decide +kernel
theorem dX1_readData_157 : decode cX1_readData 157 = .ok (.iload_n 2, 1) := by decide +kernel
theorem dX1_readData_158 : decode cX1_readData 158 = .ok (.invokevirtual 149, 3) := by decide +kernel
theorem dX1_readData_161 : decode cX1_readData 161 = .ok (.goto 8, 3) := by decide +kernel
theorem dX1_readData_164 : decode cX1_readData 164 = .ok (.aload_n 0, 1) := by decide +kernel
theorem dX1_readData_165 : decode cX1_readData 165 = .ok (.iload_n 2, 1) := by decide +kernel
theorem dX1_readData_166 : decode cX1_readData 166 = .ok (.invokevirtual 155, 3) := by decide +kernel
theorem dX1_readData_169 : decode cX1_readData 169 = .ok (.aload_n 0, 1) := by decide +kernel
theorem dX1_readData_170 : decode cX1_readData 170 = .ok (.getfield 21, 3) := by decide +kernel
theorem dX1_readData_173 : decode cX1_readData 173 = .ok (.getfield 134, 3) := by decide +kernel
theorem dX1_readData_176 : decode cX1_readData 176 = .ok (.ifCond .eq 29, 3) := by decide +kernel
theorem dX1_readData_179 : decode cX1_readData 179 = .ok (.aload_n 0, 1) := by decide +kernel
theorem dX1_readData_180 : decode cX1_readData 180 = .ok (.getfield 12, 3) := by decide +kernel
theorem dX1_readData_183 : decode cX1_readData 183 = .ok (.invokevirtual 50, 3) := by decide +kernel
theorem dX1_readData_186 : decode cX1_readData 186 = .ok (.ifCond .eq 19, 3) := by decide +kernel
theorem dX1_readData_189 : decode cX1_readData 189 = .ok (.aload_n 0, 1) := by decide +kernel
theorem dX1_readData_190 : decode cX1_readData 190 = .ok (.getfield 21, 3) := by decide +kernel
theorem dX1_readData_193 : decode cX1_readData 193 = .ok (.iload_n 1, 1) := by decide +kernel
theorem dX1_readData_194 : decode cX1_readData 194 = .ok (.aload_n 0, 1) := by decide +kernel
theorem dX1_readData_195 : decode cX1_readData 195 = .ok (.getfield 109, 3) := by decide +kernel
theorem dX1_readData_198 : decode cX1_readData 198 = .ok (.aload_n 0, 1) := by decide +kernel
theorem dX1_readData_199 : decode cX1_readData 199 = .ok (.getfield 28, 3) := by decide +kernel
theorem dX1_readData_202 : decode cX1_readData 202 = .ok (.invokevirtual 158, 3) := by decide +kernel
theorem dX1_readData_205 : decode cX1_readData 205 = .ok (.return_, 1) := by decide +kernel
theorem dX1_readOwnRuns_0 : decode cX1_readOwnRuns 0 = .ok (.aload_n 0, 1) := by decide +kernel
theorem dX1_readOwnRuns_1 : decode cX1_readOwnRuns 1 = .ok (.getfield 12, 3) := by decide +kernel
theorem dX1_readOwnRuns_4 : decode cX1_readOwnRuns 4 = .ok (.getfield 81, 3) := by decide +kernel
theorem dX1_readOwnRuns_7 : decode cX1_readOwnRuns 7 = .ok (.istore_n 3, 1) := by decide +kernel
theorem dX1_readOwnRuns_8 : decode cX1_readOwnRuns 8 = .ok (.aload_n 0, 1) := by decide +kernel
theorem dX1_readOwnRuns_9 : decode cX1_readOwnRuns 9 = .ok (.getfield 12, 3) := by decide +kernel
theorem dX1_readOwnRuns_12 : decode cX1_readOwnRuns 12 = .ok (.iconst 4, 1) := by decide +kernel
theorem dX1_readOwnRuns_13 : decode cX1_readOwnRuns 13 = .ok (.invokevirtual 162, 3) := by decide +kernel
theorem dX1_readOwnRuns_16 : decode cX1_readOwnRuns 16 = .ok (.l2i, 1) := by decide +kernel
theorem dX1_readOwnRuns_17 : decode cX1_readOwnRuns 17 = .ok (.istore 4, 2) := by decide +kernel
theorem dX1_readOwnRuns_19 : decode cX1_readOwnRuns 19 = .ok (.aload_n 0, 1) := by decide +kernel
theorem dX1_readOwnRuns_20 : decode cX1_readOwnRuns 20 = .ok (.getfield 12, 3) := by decide +kernel
theorem dX1_readOwnRuns_23 : decode cX1_readOwnRuns 23 = .ok (.iload 4, 2) := by decide +kernel
theorem dX1_readOwnRuns_25 : decode cX1_readOwnRuns 25 = .ok (.ifCond .lt 19, 3) := by decide +kernel
theorem dX1_readOwnRuns_28 : decode cX1_readOwnRuns 28 = .ok (.iload 4, 2) := by decide +kernel
theorem dX1_readOwnRuns_30 : decode cX1_readOwnRuns 30 = .ok (.aload_n 0, 1) := by decide +kernel
theorem dX1_readOwnRuns_31 : decode cX1_readOwnRuns 31 = .ok (.getfield 12, 3) := by decide +kernel
theorem dX1_readOwnRuns_34 : decode cX1_readOwnRuns 34 = .ok (.invokevirtual 54, 3) := by decide +kernel
theorem dX1_readOwnRuns_37 : decode cX1_readOwnRuns 37 = .ok (.if_icmp .gt 7, 3) := by decide +kernel
theorem dX1_readOwnRuns_40 : decode cX1_readOwnRuns 40 = .ok (.iconst 1, 1) := by decide +kernel
theorem dX1_readOwnRuns_41 : decode cX1_readOwnRuns 41 = .ok (.goto 4, 3) := by decide +kernel
theorem dX1_readOwnRuns_44 : decode cX1_readOwnRuns 44 = .ok (.iconst 0, 1) := by decide +kernel
theorem dX1_readOwnRuns_45 : decode cX1_readOwnRuns 45 = .ok (.bipush 10, 2) := by decide +kernel
theorem dX1_readOwnRuns_47 : decode cX1_readOwnRuns 47 = .ok (.iload_n 3, 1) := by decide +kernel
theorem dX1_readOwnRuns_48 : decode cX1_readOwnRuns 48 = .ok (.invokevirtual 96, 3) := by decide +kernel
theorem dX1_readOwnRuns_51 : decode cX1_readOwnRuns 51 = .ok (.aload_n 0, 1) := by decide +kernel
theorem dX1_readOwnRuns_52 : decode cX1_readOwnRuns 52 = .ok (.getfield 12, 3) := by decide +kernel
theorem dX1_readOwnRuns_55 : decode cX1_readOwnRuns 55 = .ok (.invokevirtual 50, 3) := by decide +kernel
theorem dX1_readOwnRuns_58 : decode cX1_readOwnRuns 58 = .ok (.ifCond .ne 4, 3) := by decide +kernel
theorem dX1_readOwnRuns_61 : decode cX1_readOwnRuns 61 = .ok (.return_, 1) := by decide +kernel
theorem dX1_readOwnRuns_62 : decode cX1_readOwnRuns 62 = .ok (.aload_n 0, 1) := by decide +kernel
theorem dX1_readOwnRuns_63 : decode cX1_readOwnRuns 63 = .ok (.getfield 12, 3) := by decide +kernel
theorem dX1_readOwnRuns_66 : decode cX1_readOwnRuns 66 = .ok (.getfield 78, 3) := by decide +kernel
theorem dX1_readOwnRuns_69 : decode cX1_readOwnRuns 69 = .ok (.istore 5, 2) := by decide +kernel
theorem dX1_readOwnRuns_71 : decode cX1_readOwnRuns 71 = .ok (.aload_n 0, 1) := by decide +kernel
theorem dX1_readOwnRuns_72 : decode cX1_readOwnRuns 72 = .ok (.getfield 12, 3) := by decide +kernel
theorem dX1_readOwnRuns_75 : decode cX1_readOwnRuns 75 = .ok (.aload_n 0, 1) := by decide +kernel
theorem dX1_readOwnRuns_76 : decode cX1_readOwnRuns 76 = .ok (.getfield 12, 3) := by decide +kernel
theorem dX1_readOwnRuns_79 : decode cX1_readOwnRuns 79 = .ok (.getfield 81, 3) := by decide +kernel
theorem dX1_readOwnRuns_82 : decode cX1_readOwnRuns 82 = .ok (.iload 4, 2) := by decide +kernel
theorem dX1_readOwnRuns_84 : decode cX1_readOwnRuns 84 = .ok (.iadd, 1) := by decide +kernel
theorem dX1_readOwnRuns_85 : decode cX1_readOwnRuns 85 = .ok (.putfield 78, 3) := by decide +kernel
theorem dX1_readOwnRuns_88 : decode cX1_readOwnRuns 88 = .ok (.aload_n 0, 1) := by decide +kernel
theorem dX1_readOwnRuns_89 : decode cX1_readOwnRuns 89 = .ok (.getfield 12, 3) := by decide +kernel
theorem dX1_readOwnRuns_92 : decode cX1_readOwnRuns 92 = .ok (.aload_n 1, 1) := by decide +kernel
theorem dX1_readOwnRuns_93 : decode cX1_readOwnRuns 93 = .ok (.iload_n 2, 1) := by decide +kernel
theorem dX1_readOwnRuns_94 : decode cX1_readOwnRuns 94 = .ok (.iconst 1, 1) := by decide +kernel
theorem dX1_readOwnRuns_95 : decode cX1_readOwnRuns 95 = .ok (.invokevirtual 166, 3) := by decide +kernel
theorem dX1_readOwnRuns_98 : decode cX1_readOwnRuns 98 = .ok (.aload_n 0, 1) := by decide +kernel
theorem dX1_readOwnRuns_99 : decode cX1_readOwnRuns 99 = .ok (.getfield 12, 3) := by decide +kernel
theorem dX1_readOwnRuns_102 : decode cX1_readOwnRuns 102 = .ok (.invokevirtual 70, 3) := by decide +kernel
theorem dX1_readOwnRuns_105 : decode cX1_readOwnRuns 105 = .ok (.aload_n 0, 1) := by decide +kernel
theorem dX1_readOwnRuns_106 : decode cX1_readOwnRuns 106 = .ok (.getfield 12, 3) := by decide +kernel
theorem dX1_readOwnRuns_109 : decode cX1_readOwnRuns 109 = .ok (.iload 5, 2) := by decide +kernel
theorem dX1_readOwnRuns_111 : decode cX1_readOwnRuns 111 = .ok (.putfield 78, 3) := by decide +kernel
theorem dX1_readOwnRuns_114 : decode cX1_readOwnRuns 114 = .ok (.return_, 1) := by decide +kernel
theorem dX1_countOnes_0 : decode cX1_countOnes 0 = .ok (.iconst 0, 1) := by decide +kernel
theorem dX1_countOnes_1 : decode cX1_countOnes 1 = .ok (.istore_n 2, 1) := by decide +kernel
theorem dX1_countOnes_2 : decode cX1_countOnes 2 = .ok (.iconst 0, 1) := by decide +kernel
theorem dX1_countOnes_3 : decode cX1_countOnes 3 = .ok (.istore_n 3, 1) := by decide +kernel
theorem dX1_countOnes_4 : decode cX1_countOnes 4 = .ok (.iload_n 3, 1) := by decide +kernel
theorem dX1_countOnes_5 : decode cX1_countOnes 5 = .ok (.iload_n 1, 1) := by decide +kernel
theorem dX1_countOnes_6 : decode cX1_countOnes 6 = .ok (.if_icmp .ge 47, 3) := by decide +kernel
theorem dX1_countOnes_9 : decode cX1_countOnes 9 = .ok (.iload_n 3, 1) := by decide +kernel
theorem dX1_countOnes_10 : decode cX1_countOnes 10 = .ok (.aload_n 0, 1) := by decide +kernel
theorem dX1_countOnes_11 : decode cX1_countOnes 11 = .ok (.getfield 28, 3) := by decide +kernel
theorem dX1_countOnes_14 : decode cX1_countOnes 14 = .ok (.arraylength, 1) := by decide +kernel
theorem dX1_countOnes_15 : decode cX1_countOnes 15 = .ok (.if_icmp .ge 38, 3) := by decide +kernel
theorem dX1_countOnes_18 : decode cX1_countOnes 18 = .ok (.iload_n 2, 1) := by decide +kernel
theorem dX1_countOnes_19 : decode cX1_countOnes 19 = .ok (.aload_n 0, 1) := by decide +kernel
theorem dX1_countOnes_20 : decode cX1_countOnes 20 = .ok (.getfield 12, 3) := by decide +kernel
theorem dX1_countOnes_23 : decode cX1_countOnes 23 = .ok (.invokevirtual 50, 3) := by decide +kernel
theorem dX1_countOnes_26 : decode cX1_countOnes 26 = .ok (.ifCond .eq 18, 3) := by decide +kernel
theorem dX1_countOnes_29 : decode cX1_countOnes 29 = .ok (.aload_n 0, 1) := by decide +kernel
theorem dX1_countOnes_30 : decode cX1_countOnes 30 = .ok (.getfield 28, 3) := by decide +kernel
theorem dX1_countOnes_33 : decode cX1_countOnes 33 = .ok (.iload_n 3, 1) := by decide +kernel
theorem dX1_countOnes_34 : decode cX1_countOnes 34 = .ok (.laload, 1) := by decide +kernel
theorem dX1_countOnes_35 : decode cX1_countOnes 35 = .ok (.lconst 0, 1) := by decide +kernel
theorem dX1_countOnes_36 : decode cX1_countOnes 36 = .ok (.lcmp, 1) := by decide +kernel
theorem dX1_countOnes_37 : decode cX1_countOnes 37 = .ok (.ifCond .eq 7, 3) := by decide +kernel
theorem dX1_countOnes_40 : decode cX1_countOnes 40 = .ok (.iconst 1, 1) := by decide +kernel
theorem dX1_countOnes_41 : decode cX1_countOnes 41 = .ok (.goto 4, 3) := by decide +kernel
theorem dX1_countOnes_44 : decode cX1_countOnes 44 = .ok (.iconst 0, 1) := by decide +kernel
theorem dX1_countOnes_45 : decode cX1_countOnes 45 = .ok (.iadd, 1) := by decide +kernel
theorem dX1_countOnes_46 : decode cX1_countOnes 46 = .ok (.istore_n 2, 1) := by decide +kernel
theorem dX1_countOnes_47 : decode cX1_countOnes 47 = .ok (.iinc 3 1, 3) := by decide +kernel
theorem dX1_countOnes_50 : decode cX1_countOnes 50 = .ok (.goto (-46), 3) := by decide +kernel
theorem dX1_countOnes_53 : decode cX1_countOnes 53 = .ok (.iload_n 2, 1) := by decide +kernel
theorem dX1_countOnes_54 : decode cX1_countOnes 54 = .ok (.ireturn, 1) := by decide +kernel
theorem dX1_pushNumbers_0 : decode cX1_pushNumbers 0 = .ok (.iconst 0, 1) := by decide +kernel
theorem dX1_pushNumbers_1 : decode cX1_pushNumbers 1 = .ok (.istore_n 2, 1) := by decide +kernel
theorem dX1_pushNumbers_2 : decode cX1_pushNumbers 2 = .ok (.iload_n 2, 1) := by decide +kernel
theorem dX1_pushNumbers_3 : decode cX1_pushNumbers 3 = .ok (.iload_n 1, 1) := by decide +kernel
theorem dX1_pushNumbers_4 : decode cX1_pushNumbers 4 = .ok (.if_icmp .ge 41, 3) := by decide +kernel
theorem dX1_pushNumbers_7 : decode cX1_pushNumbers 7 = .ok (.iload_n 2, 1) := by decide +kernel
theorem dX1_pushNumbers_8 : decode cX1_pushNumbers 8 = .ok (.aload_n 0, 1) := by decide +kernel
theorem dX1_pushNumbers_9 : decode cX1_pushNumbers 9 = .ok (.getfield 32, 3) := by decide +kernel
theorem dX1_pushNumbers_12 : decode cX1_pushNumbers 12 = .ok (.arraylength, 1) := by decide +kernel
theorem dX1_pushNumbers_13 : decode cX1_pushNumbers 13 = .ok (.if_icmp .ge 32, 3) := by decide +kernel
theorem dX1_pushNumbers_16 : decode cX1_pushNumbers 16 = .ok (.aload_n 0, 1) := by decide +kernel
theorem dX1_pushNumbers_17 : decode cX1_pushNumbers 17 = .ok (.getfield 12, 3) := by decide +kernel
theorem dX1_pushNumbers_20 : decode cX1_pushNumbers 20 = .ok (.invokevirtual 50, 3) := by decide +kernel
theorem dX1_pushNumbers_23 : decode cX1_pushNumbers 23 = .ok (.ifCond .eq 22, 3) := by decide +kernel
theorem dX1_pushNumbers_26 : decode cX1_pushNumbers 26 = .ok (.aload_n 0, 1) := by decide +kernel
theorem dX1_pushNumbers_27 : decode cX1_pushNumbers 27 = .ok (.getfield 21, 3) := by decide +kernel
theorem dX1_pushNumbers_30 : decode cX1_pushNumbers 30 = .ok (.aload_n 0, 1) := by decide +kernel
theorem dX1_pushNumbers_31 : decode cX1_pushNumbers 31 = .ok (.getfield 32, 3) := by decide +kernel
theorem dX1_pushNumbers_34 : decode cX1_pushNumbers 34 = .ok (.iload_n 2, 1) := by decide +kernel
theorem dX1_pushNumbers_35 : decode cX1_pushNumbers 35 = .ok (.laload, 1) := by decide +kernel
theorem dX1_pushNumbers_36 : decode cX1_pushNumbers 36 = .ok (.invokevirtual 170, 3) := by decide +kernel
theorem dX1_pushNumbers_39 : decode cX1_pushNumbers 39 = .ok (.iinc 2 1, 3) := by decide +kernel
theorem dX1_pushNumbers_42 : decode cX1_pushNumbers 42 = .ok (.goto (-40), 3) := by decide +kernel
theorem dX1_pushNumbers_45 : decode cX1_pushNumbers 45 = .ok (.return_, 1) := by decide +kernel
theorem dX1_readPlain_0 : decode cX1_readPlain 0 = .ok (.aload_n 1, 1) := by decide +kernel
theorem dX1_readPlain_1 : decode cX1_readPlain 1 = .ok (.getfield 90, 3) := by decide +kernel
theorem dX1_readPlain_4 : decode cX1_readPlain 4 = .ok (.iconst 3, 1) := by decide +kernel
theorem dX1_readPlain_5 : decode cX1_readPlain 5 = .ok (.if_icmp .ne 30, 3) := by decide +kernel
theorem dX1_readPlain_8 : decode cX1_readPlain 8 = .ok (.aload_n 0, 1) := by decide +kernel
theorem dX1_readPlain_9 : decode cX1_readPlain 9 = .ok (.getfield 12, 3) := by decide +kernel
theorem dX1_readPlain_12 : decode cX1_readPlain 12 = .ok (.aload_n 0, 1) := by decide +kernel
theorem dX1_readPlain_13 : decode cX1_readPlain 13 = .ok (.getfield 32, 3) := by decide +kernel
theorem dX1_readPlain_16 : decode cX1_readPlain 16 = .ok (.iconst 0, 1) := by decide +kernel
theorem dX1_readPlain_17 : decode cX1_readPlain 17 = .ok (.iload_n 2, 1) := by decide +kernel
theorem dX1_readPlain_18 : decode cX1_readPlain 18 = .ok (.iload_n 2, 1) := by decide +kernel
theorem dX1_readPlain_19 : decode cX1_readPlain 19 = .ok (.invokestatic 174, 3) := by decide +kernel
theorem dX1_readPlain_22 : decode cX1_readPlain 22 = .ok (.bipush 8, 2) := by decide +kernel
theorem dX1_readPlain_24 : decode cX1_readPlain 24 = .ok (.imul, 1) := by decide +kernel
theorem dX1_readPlain_25 : decode cX1_readPlain 25 = .ok (.iconst 1, 1) := by decide +kernel
theorem dX1_readPlain_26 : decode cX1_readPlain 26 = .ok (.invokevirtual 177, 3) := by decide +kernel
theorem dX1_readPlain_29 : decode cX1_readPlain 29 = .ok (.aload_n 0, 1) := by decide +kernel
theorem dX1_readPlain_30 : decode cX1_readPlain 30 = .ok (.iload_n 2, 1) := by decide +kernel
theorem dX1_readPlain_31 : decode cX1_readPlain 31 = .ok (.invokevirtual 149, 3) := by decide +kernel
theorem dX1_readPlain_34 : decode cX1_readPlain 34 = .ok (.return_, 1) := by decide +kernel
theorem dX1_readPlain_35 : decode cX1_readPlain 35 = .ok (.iconst 0, 1) := by decide +kernel
theorem dX1_readPlain_36 : decode cX1_readPlain 36 = .ok (.istore_n 3, 1) := by decide +kernel
theorem dX1_readPlain_37 : decode cX1_readPlain 37 = .ok (.iload_n 3, 1) := by decide +kernel
theorem dX1_readPlain_38 : decode cX1_readPlain 38 = .ok (.iload_n 2, 1) := by decide +kernel
theorem dX1_readPlain_39 : decode cX1_readPlain 39 = .ok (.if_icmp .ge 129, 3) := by decide +kernel
theorem dX1_readPlain_42 : decode cX1_readPlain 42 = .ok (.aload_n 0, 1) := by decide +kernel
theorem dX1_readPlain_43 : decode cX1_readPlain 43 = .ok (.getfield 12, 3) := by decide +kernel
theorem dX1_readPlain_46 : decode cX1_readPlain 46 = .ok (.invokevirtual 50, 3) := by decide +kernel
theorem dX1_readPlain_49 : decode cX1_readPlain 49 = .ok (.ifCond .eq 119, 3) := by decide +kernel
theorem dX1_readPlain_52 : decode cX1_readPlain 52 = .ok (.aload_n 1, 1) := by decide +kernel
theorem dX1_readPlain_53 : decode cX1_readPlain 53 = .ok (.getfield 90, 3) := by decide +kernel
theorem dX1_readPlain_56 : decode cX1_readPlain 56 = .ok (.iconst 2, 1) := by decide +kernel
theorem dX1_readPlain_57 : decode cX1_readPlain 57 = .ok (.if_icmp .eq 31, 3) := by decide +kernel
theorem dX1_readPlain_60 : decode cX1_readPlain 60 = .ok (.aload_n 1, 1) := by decide +kernel
theorem dX1_readPlain_61 : decode cX1_readPlain 61 = .ok (.aload_n 0, 1) := by decide +kernel
theorem dX1_readPlain_62 : decode cX1_readPlain 62 = .ok (.getfield 12, 3) := by decide +kernel
theorem dX1_readPlain_65 : decode cX1_readPlain 65 = .ok (.aload_n 1, 1) := by decide +kernel
theorem dX1_readPlain_66 : decode cX1_readPlain 66 = .ok (.getfield 90, 3) := by decide +kernel
theorem dX1_readPlain_69 : decode cX1_readPlain 69 = .ok (.iconst 1, 1) := by decide +kernel
theorem dX1_readPlain_70 : decode cX1_readPlain 70 = .ok (.if_icmp .ne 8, 3) := by decide +kernel
theorem dX1_readPlain_73 : decode cX1_readPlain 73 = .ok (.bipush 8, 2) := by decide +kernel
theorem dX1_readPlain_75 : decode cX1_readPlain 75 = .ok (.goto 4, 3) := by decide +kernel
theorem dX1_readPlain_78 : decode cX1_readPlain 78 = .ok (.iconst 4, 1) := by decide +kernel
theorem dX1_readPlain_79 : decode cX1_readPlain 79 = .ok (.invokevirtual 162, 3) := by decide +kernel
theorem dX1_readPlain_82 : decode cX1_readPlain 82 = .ok (.invokevirtual 170, 3) := by decide +kernel
theorem dX1_readPlain_85 : decode cX1_readPlain 85 = .ok (.goto 77, 3) := by decide +kernel
theorem dX1_readPlain_88 : decode cX1_readPlain 88 = .ok (.aload_n 0, 1) := by decide +kernel
theorem dX1_readPlain_89 : decode cX1_readPlain 89 = .ok (.getfield 12, 3) := by decide +kernel
theorem dX1_readPlain_92 : decode cX1_readPlain 92 = .ok (.getfield 81, 3) := by decide +kernel
theorem dX1_readPlain_95 : decode cX1_readPlain 95 = .ok (.istore 4, 2) := by decide +kernel
theorem dX1_readPlain_97 : decode cX1_readPlain 97 = .ok (.aload_n 0, 1) := by decide +kernel
theorem dX1_readPlain_98 : decode cX1_readPlain 98 = .ok (.getfield 12, 3) := by decide +kernel
theorem dX1_readPlain_101 : decode cX1_readPlain 101 = .ok (.iconst 4, 1) := by decide +kernel
theorem dX1_readPlain_102 : decode cX1_readPlain 102 = .ok (.invokevirtual 162, 3) := by decide +kernel
theorem dX1_readPlain_105 : decode cX1_readPlain 105 = .ok (.l2i, 1) := by decide +kernel
theorem dX1_readPlain_106 : decode cX1_readPlain 106 = .ok (.istore 5, 2) := by decide +kernel
theorem dX1_readPlain_108 : decode cX1_readPlain 108 = .ok (.iload 5, 2) := by decide +kernel
theorem dX1_readPlain_110 : decode cX1_readPlain 110 = .ok (.ifCond .lt 26, 3) := by decide +kernel
theorem dX1_readPlain_113 : decode cX1_readPlain 113 = .ok (.iload 5, 2) := by decide +kernel
theorem dX1_readPlain_115 : decode cX1_readPlain 115 = .ok (.bipush 40, 2) := by decide +kernel
theorem dX1_readPlain_117 : decode cX1_readPlain 117 = .ok (.if_icmp .gt 19, 3) := by decide +kernel
theorem dX1_readPlain_120 : decode cX1_readPlain 120 = .ok (.iload 5, 2) := by decide +kernel
theorem dX1_readPlain_122 : decode cX1_readPlain 122 = .ok (.aload_n 0, 1) := by decide +kernel
theorem dX1_readPlain_123 : decode cX1_readPlain 123 = .ok (.getfield 12, 3) := by decide +kernel
theorem dX1_readPlain_126 : decode cX1_readPlain 126 = .ok (.invokevirtual 54, 3) := by decide +kernel
theorem dX1_readPlain_129 : decode cX1_readPlain 129 = .ok (.if_icmp .gt 7, 3) := by decide +kernel
theorem dX1_readPlain_132 : decode cX1_readPlain 132 = .ok (.iconst 1, 1) := by decide +kernel
theorem dX1_readPlain_133 : decode cX1_readPlain 133 = .ok (.goto 4, 3) := by decide +kernel
theorem dX1_readPlain_136 : decode cX1_readPlain 136 = .ok (.iconst 0, 1) := by decide +kernel
theorem dX1_readPlain_137 : decode cX1_readPlain 137 = .ok (.istore 6, 2) := by decide +kernel
theorem dX1_readPlain_139 : decode cX1_readPlain 139 = .ok (.aload_n 0, 1) := by decide +kernel
theorem dX1_readPlain_140 : decode cX1_readPlain 140 = .ok (.getfield 12, 3) := by decide +kernel
theorem dX1_readPlain_143 : decode cX1_readPlain 143 = .ok (.iload 6, 2) := by decide +kernel
theorem dX1_readPlain_145 : decode cX1_readPlain 145 = .ok (.bipush 10, 2) := by decide +kernel
theorem dX1_readPlain_147 : decode cX1_readPlain 147 = .ok (.iload 4, 2) := by decide +kernel
theorem dX1_readPlain_149 : decode cX1_readPlain 149 = .ok (.invokevirtual 96, 3) := by decide +kernel
theorem dX1_readPlain_152 : decode cX1_readPlain 152 = .ok (.aload_n 0, 1) := by decide +kernel
theorem dX1_readPlain_153 : decode cX1_readPlain 153 = .ok (.getfield 12, 3) := by decide +kernel
theorem dX1_readPlain_156 : decode cX1_readPlain 156 = .ok (.aload_n 1, 1) := by decide +kernel
theorem dX1_readPlain_157 : decode cX1_readPlain 157 = .ok (.iload 5, 2) := by decide +kernel
theorem dX1_readPlain_159 : decode cX1_readPlain 159 = .ok (.invokevirtual 181, 3) := by decide +kernel
theorem dX1_readPlain_162 : decode cX1_readPlain 162 = .ok (.iinc 3 1, 3) := by decide +kernel
theorem dX1_readPlain_165 : decode cX1_readPlain 165 = .ok (.goto (-128), 3) := by decide +kernel
theorem dX1_readPlain_168 : decode cX1_readPlain 168 = .ok (.return_, 1) := by decide +kernel
theorem dX1_readLengths_0 : decode cX1_readLengths 0 = .ok (.aload_n 0, 1) := by decide +kernel
theorem dX1_readLengths_1 : decode cX1_readLengths 1 = .ok (.getfield 12, 3) := by decide +kernel
theorem dX1_readLengths_4 : decode cX1_readLengths 4 = .ok (.aload_n 0, 1) := by decide +kernel
theorem dX1_readLengths_5 : decode cX1_readLengths 5 = .ok (.getfield 32, 3) := by decide +kernel
theorem dX1_readLengths_8 : decode cX1_readLengths 8 = .ok (.iload_n 1, 1) := by decide +kernel
theorem dX1_readLengths_9 : decode cX1_readLengths 9 = .ok (.iconst 1, 1) := by decide +kernel
theorem dX1_readLengths_10 : decode cX1_readLengths 10 = .ok (.invokevirtual 145, 3) := by decide +kernel
theorem dX1_readLengths_13 : decode cX1_readLengths 13 = .ok (.lconst 0, 1) := by decide +kernel
theorem dX1_readLengths_14 : decode cX1_readLengths 14 = .ok (.lstore_n 2, 1) := by decide +kernel
theorem dX1_readLengths_15 : decode cX1_readLengths 15 = .ok (.iconst 1, 1) := by decide +kernel
theorem dX1_readLengths_16 : decode cX1_readLengths 16 = .ok (.istore 4, 2) := by decide +kernel
theorem dX1_readLengths_18 : decode cX1_readLengths 18 = .ok (.iconst 0, 1) := by decide +kernel
theorem dX1_readLengths_19 : decode cX1_readLengths 19 = .ok (.istore 5, 2) := by decide +kernel
theorem dX1_readLengths_21 : decode cX1_readLengths 21 = .ok (.iload 5, 2) := by decide +kernel
theorem dX1_readLengths_23 : decode cX1_readLengths 23 = .ok (.iload_n 1, 1) := by decide +kernel
theorem dX1_readLengths_24 : decode cX1_readLengths 24 = .ok (.if_icmp .ge 67, 3) := by decide +kernel
theorem dX1_readLengths_27 : decode cX1_readLengths 27 = .ok (.iload 5, 2) := by decide +kernel
theorem dX1_readLengths_29 : decode cX1_readLengths 29 = .ok (.aload_n 0, 1) := by decide +kernel
theorem dX1_readLengths_30 : decode cX1_readLengths 30 = .ok (.getfield 32, 3) := by decide +kernel
theorem dX1_readLengths_33 : decode cX1_readLengths 33 = .ok (.arraylength, 1) := by decide +kernel
theorem dX1_readLengths_34 : decode cX1_readLengths 34 = .ok (.if_icmp .ge 57, 3) := by decide +kernel
theorem dX1_readLengths_37 : decode cX1_readLengths 37 = .ok (.iload 4, 2) := by decide +kernel
theorem dX1_readLengths_39 : decode cX1_readLengths 39 = .ok (.ifCond .eq 33, 3) := by decide +kernel
theorem dX1_readLengths_42 : decode cX1_readLengths 42 = .ok (.aload_n 0, 1) := by decide +kernel
theorem dX1_readLengths_43 : decode cX1_readLengths 43 = .ok (.getfield 32, 3) := by decide +kernel
theorem dX1_readLengths_46 : decode cX1_readLengths 46 = .ok (.iload 5, 2) := by decide +kernel
theorem dX1_readLengths_48 : decode cX1_readLengths 48 = .ok (.laload, 1) := by decide +kernel
theorem dX1_readLengths_49 : decode cX1_readLengths 49 = .ok (.lconst 0, 1) := by decide +kernel
theorem dX1_readLengths_50 : decode cX1_readLengths 50 = .ok (.lcmp, 1) := by decide +kernel
theorem dX1_readLengths_51 : decode cX1_readLengths 51 = .ok (.ifCond .lt 21, 3) := by decide +kernel
theorem dX1_readLengths_54 : decode cX1_readLengths 54 = .ok (.aload_n 0, 1) := by decide +kernel
theorem dX1_readLengths_55 : decode cX1_readLengths 55 = .ok (.getfield 32, 3) := by decide +kernel
theorem dX1_readLengths_58 : decode cX1_readLengths 58 = .ok (.iload 5, 2) := by decide +kernel
theorem dX1_readLengths_60 : decode cX1_readLengths 60 = .ok (.laload, 1) := by decide +kernel
theorem dX1_readLengths_61 : decode cX1_readLengths 61 = .ok (.ldc2_w 184, 3) := by decide +kernel
theorem dX1_readLengths_64 : decode cX1_readLengths 64 = .ok (.lcmp, 1) := by decide +kernel
theorem dX1_readLengths_65 : decode cX1_readLengths 65 = .ok (.ifCond .gt 7, 3) := by decide +kernel
theorem dX1_readLengths_68 : decode cX1_readLengths 68 = .ok (.iconst 1, 1) := by decide +kernel
theorem dX1_readLengths_69 : decode cX1_readLengths 69 = .ok (.goto 4, 3) := by decide +kernel
theorem dX1_readLengths_72 : decode cX1_readLengths 72 = .ok (.iconst 0, 1) := by decide +kernel
theorem dX1_readLengths_73 : decode cX1_readLengths 73 = .ok (.istore 4, 2) := by decide +kernel
theorem dX1_readLengths_75 : decode cX1_readLengths 75 = .ok (.lload_n 2, 1) := by decide +kernel
theorem dX1_readLengths_76 : decode cX1_readLengths 76 = .ok (.aload_n 0, 1) := by decide +kernel
theorem dX1_readLengths_77 : decode cX1_readLengths 77 = .ok (.getfield 32, 3) := by decide +kernel
theorem dX1_readLengths_80 : decode cX1_readLengths 80 = .ok (.iload 5, 2) := by decide +kernel
theorem dX1_readLengths_82 : decode cX1_readLengths 82 = .ok (.laload, 1) := by decide +kernel
theorem dX1_readLengths_83 : decode cX1_readLengths 83 = .ok (.ladd, 1) := by decide +kernel
theorem dX1_readLengths_84 : decode cX1_readLengths 84 = .ok (.lstore_n 2, 1) := by decide +kernel
theorem dX1_readLengths_85 : decode cX1_readLengths 85 = .ok (.iinc 5 1, 3) := by decide +kernel
theorem dX1_readLengths_88 : decode cX1_readLengths 88 = .ok (.goto (-67), 3) := by decide +kernel
theorem dX1_readLengths_91 : decode cX1_readLengths 91 = .ok (.aload_n 0, 1) := by decide +kernel
theorem dX1_readLengths_92 : decode cX1_readLengths 92 = .ok (.getfield 12, 3) := by decide +kernel
theorem dX1_readLengths_95 : decode cX1_readLengths 95 = .ok (.iload 4, 2) := by decide +kernel
theorem dX1_readLengths_97 : decode cX1_readLengths 97 = .ok (.ifCond .eq 20, 3) := by decide +kernel
theorem dX1_readLengths_100 : decode cX1_readLengths 100 = .ok (.lload_n 2, 1) := by decide +kernel
theorem dX1_readLengths_101 : decode cX1_readLengths 101 = .ok (.aload_n 0, 1) := by decide +kernel
theorem dX1_readLengths_102 : decode cX1_readLengths 102 = .ok (.getfield 12, 3) := by decide +kernel
theorem dX1_readLengths_105 : decode cX1_readLengths 105 = .ok (.invokevirtual 54, 3) := by decide +kernel
theorem dX1_readLengths_108 : decode cX1_readLengths 108 = .ok (.i2l, 1) := by decide +kernel
theorem dX1_readLengths_109 : decode cX1_readLengths 109 = .ok (.lcmp, 1) := by decide +kernel
theorem dX1_readLengths_110 : decode cX1_readLengths 110 = .ok (.ifCond .gt 7, 3) := by decide +kernel
theorem dX1_readLengths_113 : decode cX1_readLengths 113 = .ok (.iconst 1, 1) := by decide +kernel
theorem dX1_readLengths_114 : decode cX1_readLengths 114 = .ok (.goto 4, 3) := by decide +kernel
theorem dX1_readLengths_117 : decode cX1_readLengths 117 = .ok (.iconst 0, 1) := by decide +kernel
theorem dX1_readLengths_118 : decode cX1_readLengths 118 = .ok (.bipush 10, 2) := by decide +kernel
theorem dX1_readLengths_120 : decode cX1_readLengths 120 = .ok (.aload_n 0, 1) := by decide +kernel
theorem dX1_readLengths_121 : decode cX1_readLengths 121 = .ok (.getfield 12, 3) := by decide +kernel
theorem dX1_readLengths_124 : decode cX1_readLengths 124 = .ok (.getfield 81, 3) := by decide +kernel
theorem dX1_readLengths_127 : decode cX1_readLengths 127 = .ok (.invokevirtual 96, 3) := by decide +kernel
theorem dX1_readLengths_130 : decode cX1_readLengths 130 = .ok (.iconst 0, 1) := by decide +kernel
theorem dX1_readLengths_131 : decode cX1_readLengths 131 = .ok (.istore 5, 2) := by decide +kernel
theorem dX1_readLengths_133 : decode cX1_readLengths 133 = .ok (.iload 5, 2) := by decide +kernel
theorem dX1_readLengths_135 : decode cX1_readLengths 135 = .ok (.iload_n 1, 1) := by decide +kernel
theorem dX1_readLengths_136 : decode cX1_readLengths 136 = .ok (.if_icmp .ge 48, 3) := by decide +kernel
theorem dX1_readLengths_139 : decode cX1_readLengths 139 = .ok (.iload 5, 2) := by decide +kernel
theorem dX1_readLengths_141 : decode cX1_readLengths 141 = .ok (.aload_n 0, 1) := by decide +kernel
theorem dX1_readLengths_142 : decode cX1_readLengths 142 = .ok (.getfield 32, 3) := by decide +kernel
theorem dX1_readLengths_145 : decode cX1_readLengths 145 = .ok (.arraylength, 1) := by decide +kernel
theorem dX1_readLengths_146 : decode cX1_readLengths 146 = .ok (.if_icmp .ge 38, 3) := by decide +kernel
theorem dX1_readLengths_149 : decode cX1_readLengths 149 = .ok (.aload_n 0, 1) := by decide +kernel
theorem dX1_readLengths_150 : decode cX1_readLengths 150 = .ok (.getfield 12, 3) := by decide +kernel
theorem dX1_readLengths_153 : decode cX1_readLengths 153 = .ok (.invokevirtual 50, 3) := by decide +kernel
theorem dX1_readLengths_156 : decode cX1_readLengths 156 = .ok (.ifCond .eq 28, 3) := by decide +kernel
theorem dX1_readLengths_159 : decode cX1_readLengths 159 = .ok (.aload_n 0, 1) := by decide +kernel
theorem dX1_readLengths_160 : decode cX1_readLengths 160 = .ok (.getfield 12, 3) := by decide +kernel
theorem dX1_readLengths_163 : decode cX1_readLengths 163 = .ok (.aload_n 0, 1) := by decide +kernel
theorem dX1_readLengths_164 : decode cX1_readLengths 164 = .ok (.getfield 21, 3) := by decide +kernel
theorem dX1_readLengths_167 : decode cX1_readLengths 167 = .ok (.aload_n 0, 1) := by decide +kernel
theorem dX1_readLengths_168 : decode cX1_readLengths 168 = .ok (.getfield 32, 3) := by decide +kernel
theorem dX1_readLengths_171 : decode cX1_readLengths 171 = .ok (.iload 5, 2) := by decide +kernel
theorem dX1_readLengths_173 : decode cX1_readLengths 173 = .ok (.laload, 1) := by decide +kernel
theorem dX1_readLengths_174 : decode cX1_readLengths 174 = .ok (.l2i, 1) := by decide +kernel
theorem dX1_readLengths_175 : decode cX1_readLengths 175 = .ok (.invokevirtual 181, 3) := by decide +kernel
theorem dX1_readLengths_178 : decode cX1_readLengths 178 = .ok (.iinc 5 1, 3) := by decide +kernel
theorem dX1_readLengths_181 : decode cX1_readLengths 181 = .ok (.goto (-48), 3) := by decide +kernel
theorem dX1_readLengths_184 : decode cX1_readLengths 184 = .ok (.return_, 1) := by decide +kernel
theorem dX1_readPlaces_0 : decode cX1_readPlaces 0 = .ok (.aload_n 0, 1) := by decide +kernel
theorem dX1_readPlaces_1 : decode cX1_readPlaces 1 = .ok (.getfield 12, 3) := by decide +kernel
theorem dX1_readPlaces_4 : decode cX1_readPlaces 4 = .ok (.getfield 81, 3) := by decide +kernel
theorem dX1_readPlaces_7 : decode cX1_readPlaces 7 = .ok (.istore_n 2, 1) := by decide +kernel
theorem dX1_readPlaces_8 : decode cX1_readPlaces 8 = .ok (.aload_n 0, 1) := by decide +kernel
theorem dX1_readPlaces_9 : decode cX1_readPlaces 9 = .ok (.getfield 12, 3) := by decide +kernel
theorem dX1_readPlaces_12 : decode cX1_readPlaces 12 = .ok (.invokevirtual 186, 3) := by decide +kernel
theorem dX1_readPlaces_15 : decode cX1_readPlaces 15 = .ok (.istore_n 3, 1) := by decide +kernel
theorem dX1_readPlaces_16 : decode cX1_readPlaces 16 = .ok (.aload_n 0, 1) := by decide +kernel
theorem dX1_readPlaces_17 : decode cX1_readPlaces 17 = .ok (.getfield 12, 3) := by decide +kernel
theorem dX1_readPlaces_20 : decode cX1_readPlaces 20 = .ok (.iload_n 3, 1) := by decide +kernel
theorem dX1_readPlaces_21 : decode cX1_readPlaces 21 = .ok (.bipush 32, 2) := by decide +kernel
theorem dX1_readPlaces_23 : decode cX1_readPlaces 23 = .ok (.if_icmp .gt 7, 3) := by decide +kernel
theorem dX1_readPlaces_26 : decode cX1_readPlaces 26 = .ok (.iconst 1, 1) := by decide +kernel
theorem dX1_readPlaces_27 : decode cX1_readPlaces 27 = .ok (.goto 4, 3) := by decide +kernel
theorem dX1_readPlaces_30 : decode cX1_readPlaces 30 = .ok (.iconst 0, 1) := by decide +kernel
theorem dX1_readPlaces_31 : decode cX1_readPlaces 31 = .ok (.bipush 11, 2) := by decide +kernel
theorem dX1_readPlaces_33 : decode cX1_readPlaces 33 = .ok (.iload_n 2, 1) := by decide +kernel
theorem dX1_readPlaces_34 : decode cX1_readPlaces 34 = .ok (.invokevirtual 96, 3) := by decide +kernel
theorem dX1_readPlaces_37 : decode cX1_readPlaces 37 = .ok (.aload_n 0, 1) := by decide +kernel
theorem dX1_readPlaces_38 : decode cX1_readPlaces 38 = .ok (.getfield 12, 3) := by decide +kernel
theorem dX1_readPlaces_41 : decode cX1_readPlaces 41 = .ok (.getfield 81, 3) := by decide +kernel
theorem dX1_readPlaces_44 : decode cX1_readPlaces 44 = .ok (.istore 4, 2) := by decide +kernel
theorem dX1_readPlaces_46 : decode cX1_readPlaces 46 = .ok (.aload_n 0, 1) := by decide +kernel
theorem dX1_readPlaces_47 : decode cX1_readPlaces 47 = .ok (.getfield 12, 3) := by decide +kernel
theorem dX1_readPlaces_50 : decode cX1_readPlaces 50 = .ok (.aload_n 0, 1) := by decide +kernel
theorem dX1_readPlaces_51 : decode cX1_readPlaces 51 = .ok (.getfield 32, 3) := by decide +kernel
theorem dX1_readPlaces_54 : decode cX1_readPlaces 54 = .ok (.iload_n 1, 1) := by decide +kernel
theorem dX1_readPlaces_55 : decode cX1_readPlaces 55 = .ok (.iload_n 3, 1) := by decide +kernel
theorem dX1_readPlaces_56 : decode cX1_readPlaces 56 = .ok (.invokevirtual 166, 3) := by decide +kernel
theorem dX1_readPlaces_59 : decode cX1_readPlaces 59 = .ok (.iconst 0, 1) := by decide +kernel
theorem dX1_readPlaces_60 : decode cX1_readPlaces 60 = .ok (.istore 5, 2) := by decide +kernel
theorem dX1_readPlaces_62 : decode cX1_readPlaces 62 = .ok (.iload 5, 2) := by decide +kernel
theorem dX1_readPlaces_64 : decode cX1_readPlaces 64 = .ok (.iload_n 1, 1) := by decide +kernel
theorem dX1_readPlaces_65 : decode cX1_readPlaces 65 = .ok (.if_icmp .ge 54, 3) := by decide +kernel
theorem dX1_readPlaces_68 : decode cX1_readPlaces 68 = .ok (.iload 5, 2) := by decide +kernel
theorem dX1_readPlaces_70 : decode cX1_readPlaces 70 = .ok (.aload_n 0, 1) := by decide +kernel
theorem dX1_readPlaces_71 : decode cX1_readPlaces 71 = .ok (.getfield 32, 3) := by decide +kernel
theorem dX1_readPlaces_74 : decode cX1_readPlaces 74 = .ok (.arraylength, 1) := by decide +kernel
theorem dX1_readPlaces_75 : decode cX1_readPlaces 75 = .ok (.if_icmp .ge 44, 3) := by decide +kernel
theorem dX1_readPlaces_78 : decode cX1_readPlaces 78 = .ok (.aload_n 0, 1) := by decide +kernel
theorem dX1_readPlaces_79 : decode cX1_readPlaces 79 = .ok (.getfield 12, 3) := by decide +kernel
theorem dX1_readPlaces_82 : decode cX1_readPlaces 82 = .ok (.aload_n 0, 1) := by decide +kernel
theorem dX1_readPlaces_83 : decode cX1_readPlaces 83 = .ok (.getfield 32, 3) := by decide +kernel
theorem dX1_readPlaces_86 : decode cX1_readPlaces 86 = .ok (.iload 5, 2) := by decide +kernel
theorem dX1_readPlaces_88 : decode cX1_readPlaces 88 = .ok (.laload, 1) := by decide +kernel
theorem dX1_readPlaces_89 : decode cX1_readPlaces 89 = .ok (.aload_n 0, 1) := by decide +kernel
theorem dX1_readPlaces_90 : decode cX1_readPlaces 90 = .ok (.getfield 25, 3) := by decide +kernel
theorem dX1_readPlaces_93 : decode cX1_readPlaces 93 = .ok (.getfield 104, 3) := by decide +kernel
theorem dX1_readPlaces_96 : decode cX1_readPlaces 96 = .ok (.i2l, 1) := by decide +kernel
theorem dX1_readPlaces_97 : decode cX1_readPlaces 97 = .ok (.lcmp, 1) := by decide +kernel
theorem dX1_readPlaces_98 : decode cX1_readPlaces 98 = .ok (.ifCond .ge 7, 3) := by decide +kernel
theorem dX1_readPlaces_101 : decode cX1_readPlaces 101 = .ok (.iconst 1, 1) := by decide +kernel
theorem dX1_readPlaces_102 : decode cX1_readPlaces 102 = .ok (.goto 4, 3) := by decide +kernel
theorem dX1_readPlaces_105 : decode cX1_readPlaces 105 = .ok (.iconst 0, 1) := by decide +kernel
theorem dX1_readPlaces_106 : decode cX1_readPlaces 106 = .ok (.bipush 12, 2) := by decide +kernel
theorem dX1_readPlaces_108 : decode cX1_readPlaces 108 = .ok (.iload 4, 2) := by decide +kernel
theorem dX1_readPlaces_110 : decode cX1_readPlaces 110 = .ok (.invokevirtual 96, 3) := by decide +kernel
theorem dX1_readPlaces_113 : decode cX1_readPlaces 113 = .ok (.iinc 5 1, 3) := by decide +kernel
theorem dX1_readPlaces_116 : decode cX1_readPlaces 116 = .ok (.goto (-54), 3) := by decide +kernel
theorem dX1_readPlaces_119 : decode cX1_readPlaces 119 = .ok (.iconst 0, 1) := by decide +kernel
theorem dX1_readPlaces_120 : decode cX1_readPlaces 120 = .ok (.istore 5, 2) := by decide +kernel
theorem dX1_readPlaces_122 : decode cX1_readPlaces 122 = .ok (.iload 5, 2) := by decide +kernel
theorem dX1_readPlaces_124 : decode cX1_readPlaces 124 = .ok (.iload_n 1, 1) := by decide +kernel
theorem dX1_readPlaces_125 : decode cX1_readPlaces 125 = .ok (.if_icmp .ge 48, 3) := by decide +kernel
theorem dX1_readPlaces_128 : decode cX1_readPlaces 128 = .ok (.iload 5, 2) := by decide +kernel
theorem dX1_readPlaces_130 : decode cX1_readPlaces 130 = .ok (.aload_n 0, 1) := by decide +kernel
theorem dX1_readPlaces_131 : decode cX1_readPlaces 131 = .ok (.getfield 32, 3) := by decide +kernel
theorem dX1_readPlaces_134 : decode cX1_readPlaces 134 = .ok (.arraylength, 1) := by decide +kernel
theorem dX1_readPlaces_135 : decode cX1_readPlaces 135 = .ok (.if_icmp .ge 38, 3) := by decide +kernel
theorem dX1_readPlaces_138 : decode cX1_readPlaces 138 = .ok (.aload_n 0, 1) := by decide +kernel
theorem dX1_readPlaces_139 : decode cX1_readPlaces 139 = .ok (.getfield 12, 3) := by decide +kernel
theorem dX1_readPlaces_142 : decode cX1_readPlaces 142 = .ok (.invokevirtual 50, 3) := by decide +kernel
theorem dX1_readPlaces_145 : decode cX1_readPlaces 145 = .ok (.ifCond .eq 28, 3) := by decide +kernel
theorem dX1_readPlaces_148 : decode cX1_readPlaces 148 = .ok (.aload_n 0, 1) := by decide +kernel
theorem dX1_readPlaces_149 : decode cX1_readPlaces 149 = .ok (.getfield 21, 3) := by decide +kernel
theorem dX1_readPlaces_152 : decode cX1_readPlaces 152 = .ok (.aload_n 0, 1) := by decide +kernel
theorem dX1_readPlaces_153 : decode cX1_readPlaces 153 = .ok (.getfield 25, 3) := by decide +kernel
theorem dX1_readPlaces_156 : decode cX1_readPlaces 156 = .ok (.aload_n 0, 1) := by decide +kernel
theorem dX1_readPlaces_157 : decode cX1_readPlaces 157 = .ok (.getfield 32, 3) := by decide +kernel
theorem dX1_readPlaces_160 : decode cX1_readPlaces 160 = .ok (.iload 5, 2) := by decide +kernel
theorem dX1_readPlaces_162 : decode cX1_readPlaces 162 = .ok (.laload, 1) := by decide +kernel
theorem dX1_readPlaces_163 : decode cX1_readPlaces 163 = .ok (.l2i, 1) := by decide +kernel
theorem dX1_readPlaces_164 : decode cX1_readPlaces 164 = .ok (.invokevirtual 189, 3) := by decide +kernel
theorem dX1_readPlaces_167 : decode cX1_readPlaces 167 = .ok (.iinc 5 1, 3) := by decide +kernel
theorem dX1_readPlaces_170 : decode cX1_readPlaces 170 = .ok (.goto (-48), 3) := by decide +kernel
theorem dX1_readPlaces_173 : decode cX1_readPlaces 173 = .ok (.return_, 1) := by decide +kernel
