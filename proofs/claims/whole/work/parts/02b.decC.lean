theorem dX0_init_0 : decode cX0_init 0 = .ok (.aload_n 0, 1) := by decide +kernel
theorem dX0_init_1 : decode cX0_init 1 = .ok (.invokespecial 3, 3) := by decide +kernel
theorem dX0_init_4 : decode cX0_init 4 = .ok (.aload_n 0, 1) := by decide +kernel
theorem dX0_init_5 : decode cX0_init 5 = .ok (.bipush 24, 2) := by decide +kernel
theorem dX0_init_7 : decode cX0_init 7 = .ok (.anewarray 9, 3) := by decide +kernel
theorem dX0_init_10 : decode cX0_init 10 = .ok (.putfield 11, 3) := by decide +kernel
theorem dX0_init_13 : decode cX0_init 13 = .ok (.iconst 0, 1) := by decide +kernel
theorem dX0_init_14 : decode cX0_init 14 = .ok (.istore_n 1, 1) := by decide +kernel
theorem dX0_init_15 : decode cX0_init 15 = .ok (.iload_n 1, 1) := by decide +kernel
theorem dX0_init_16 : decode cX0_init 16 = .ok (.bipush 24, 2) := by decide +kernel
theorem dX0_init_18 : decode cX0_init 18 = .ok (.if_icmp .ge 22, 3) := by decide +kernel
theorem dX0_init_21 : decode cX0_init 21 = .ok (.aload_n 0, 1) := by decide +kernel
theorem dX0_init_22 : decode cX0_init 22 = .ok (.getfield 11, 3) := by decide +kernel
theorem dX0_init_25 : decode cX0_init 25 = .ok (.iload_n 1, 1) := by decide +kernel
theorem dX0_init_26 : decode cX0_init 26 = .ok (.new 9, 3) := by decide +kernel
theorem dX0_init_29 : decode cX0_init 29 = .ok (.dup, 1) := by decide +kernel
theorem dX0_init_30 : decode cX0_init 30 = .ok (.invokespecial 17, 3) := by decide +kernel
theorem dX0_init_33 : decode cX0_init 33 = .ok (.aastore, 1) := by decide +kernel
theorem dX0_init_34 : decode cX0_init 34 = .ok (.iinc 1 1, 3) := by decide +kernel
theorem dX0_init_37 : decode cX0_init 37 = .ok (.goto (-22), 3) := by decide +kernel
theorem dX0_init_40 : decode cX0_init 40 = .ok (.return_, 1) := by decide +kernel
theorem dX0_keep_0 : decode cX0_keep 0 = .ok (.aload_n 0, 1) := by decide +kernel
theorem dX0_keep_1 : decode cX0_keep 1 = .ok (.getfield 11, 3) := by decide +kernel
theorem dX0_keep_4 : decode cX0_keep 4 = .ok (.aload_n 0, 1) := by decide +kernel
theorem dX0_keep_5 : decode cX0_keep 5 = .ok (.getfield 18, 3) := by decide +kernel
theorem dX0_keep_8 : decode cX0_keep 8 = .ok (.aaload, 1) := by decide +kernel
theorem dX0_keep_9 : decode cX0_keep 9 = .ok (.aload_n 1, 1) := by decide +kernel
theorem dX0_keep_10 : decode cX0_keep 10 = .ok (.invokevirtual 22, 3) := by decide +kernel
theorem dX0_keep_13 : decode cX0_keep 13 = .ok (.aload_n 0, 1) := by decide +kernel
theorem dX0_keep_14 : decode cX0_keep 14 = .ok (.aload_n 0, 1) := by decide +kernel
theorem dX0_keep_15 : decode cX0_keep 15 = .ok (.getfield 18, 3) := by decide +kernel
theorem dX0_keep_18 : decode cX0_keep 18 = .ok (.iconst 1, 1) := by decide +kernel
theorem dX0_keep_19 : decode cX0_keep 19 = .ok (.iadd, 1) := by decide +kernel
theorem dX0_keep_20 : decode cX0_keep 20 = .ok (.bipush 24, 2) := by decide +kernel
theorem dX0_keep_22 : decode cX0_keep 22 = .ok (.irem, 1) := by decide +kernel
theorem dX0_keep_23 : decode cX0_keep 23 = .ok (.putfield 18, 3) := by decide +kernel
theorem dX0_keep_26 : decode cX0_keep 26 = .ok (.aload_n 0, 1) := by decide +kernel
theorem dX0_keep_27 : decode cX0_keep 27 = .ok (.aload_n 0, 1) := by decide +kernel
theorem dX0_keep_28 : decode cX0_keep 28 = .ok (.getfield 26, 3) := by decide +kernel
theorem dX0_keep_31 : decode cX0_keep 31 = .ok (.iconst 1, 1) := by decide +kernel
theorem dX0_keep_32 : decode cX0_keep 32 = .ok (.iadd, 1) := by decide +kernel
theorem dX0_keep_33 : decode cX0_keep 33 = .ok (.bipush 24, 2) := by decide +kernel
theorem dX0_keep_35 : decode cX0_keep 35 = .ok (.invokestatic 29, 3) := by decide +kernel
theorem dX0_keep_38 : decode cX0_keep 38 = .ok (.putfield 26, 3) := by decide +kernel
theorem dX0_keep_41 : decode cX0_keep 41 = .ok (.return_, 1) := by decide +kernel
theorem dX0_takeBack_0 : decode cX0_takeBack 0 = .ok (.aload_n 0, 1) := by decide +kernel
theorem dX0_takeBack_1 : decode cX0_takeBack 1 = .ok (.aload_n 0, 1) := by decide +kernel
theorem dX0_takeBack_2 : decode cX0_takeBack 2 = .ok (.getfield 18, 3) := by decide +kernel
theorem dX0_takeBack_5 : decode cX0_takeBack 5 = .ok (.bipush 24, 2) := by decide +kernel
theorem dX0_takeBack_7 : decode cX0_takeBack 7 = .ok (.iadd, 1) := by decide +kernel
theorem dX0_takeBack_8 : decode cX0_takeBack 8 = .ok (.iconst 1, 1) := by decide +kernel
theorem dX0_takeBack_9 : decode cX0_takeBack 9 = .ok (.isub, 1) := by decide +kernel
theorem dX0_takeBack_10 : decode cX0_takeBack 10 = .ok (.bipush 24, 2) := by decide +kernel
theorem dX0_takeBack_12 : decode cX0_takeBack 12 = .ok (.irem, 1) := by decide +kernel
theorem dX0_takeBack_13 : decode cX0_takeBack 13 = .ok (.putfield 18, 3) := by decide +kernel
theorem dX0_takeBack_16 : decode cX0_takeBack 16 = .ok (.aload_n 0, 1) := by decide +kernel
theorem dX0_takeBack_17 : decode cX0_takeBack 17 = .ok (.aload_n 0, 1) := by decide +kernel
theorem dX0_takeBack_18 : decode cX0_takeBack 18 = .ok (.getfield 26, 3) := by decide +kernel
theorem dX0_takeBack_21 : decode cX0_takeBack 21 = .ok (.iconst 1, 1) := by decide +kernel
theorem dX0_takeBack_22 : decode cX0_takeBack 22 = .ok (.isub, 1) := by decide +kernel
theorem dX0_takeBack_23 : decode cX0_takeBack 23 = .ok (.iconst 0, 1) := by decide +kernel
theorem dX0_takeBack_24 : decode cX0_takeBack 24 = .ok (.invokestatic 35, 3) := by decide +kernel
theorem dX0_takeBack_27 : decode cX0_takeBack 27 = .ok (.putfield 26, 3) := by decide +kernel
theorem dX0_takeBack_30 : decode cX0_takeBack 30 = .ok (.aload_n 1, 1) := by decide +kernel
theorem dX0_takeBack_31 : decode cX0_takeBack 31 = .ok (.aload_n 0, 1) := by decide +kernel
theorem dX0_takeBack_32 : decode cX0_takeBack 32 = .ok (.getfield 11, 3) := by decide +kernel
theorem dX0_takeBack_35 : decode cX0_takeBack 35 = .ok (.aload_n 0, 1) := by decide +kernel
theorem dX0_takeBack_36 : decode cX0_takeBack 36 = .ok (.getfield 18, 3) := by decide +kernel
theorem dX0_takeBack_39 : decode cX0_takeBack 39 = .ok (.aaload, 1) := by decide +kernel
theorem dX0_takeBack_40 : decode cX0_takeBack 40 = .ok (.invokevirtual 22, 3) := by decide +kernel
theorem dX0_takeBack_43 : decode cX0_takeBack 43 = .ok (.return_, 1) := by decide +kernel
theorem dX0_forget_0 : decode cX0_forget 0 = .ok (.aload_n 0, 1) := by decide +kernel
theorem dX0_forget_1 : decode cX0_forget 1 = .ok (.iconst 0, 1) := by decide +kernel
theorem dX0_forget_2 : decode cX0_forget 2 = .ok (.putfield 26, 3) := by decide +kernel
theorem dX0_forget_5 : decode cX0_forget 5 = .ok (.return_, 1) := by decide +kernel
theorem dX1_init_0 : decode cX1_init 0 = .ok (.aload_n 0, 1) := by decide +kernel
theorem dX1_init_1 : decode cX1_init 1 = .ok (.invokespecial 1, 3) := by decide +kernel
theorem dX1_init_4 : decode cX1_init 4 = .ok (.aload_n 0, 1) := by decide +kernel
theorem dX1_init_5 : decode cX1_init 5 = .ok (.bipush 16, 2) := by decide +kernel
theorem dX1_init_7 : decode cX1_init 7 = .ok (.newarray .int, 2) := by decide +kernel
theorem dX1_init_9 : decode cX1_init 9 = .ok (.putfield 9, 3) := by decide +kernel
theorem dX1_init_12 : decode cX1_init 12 = .ok (.return_, 1) := by decide +kernel
theorem dX1_sizeOf_0 : decode cX1_sizeOf 0 = .ok (.aload_n 0, 1) := by decide +kernel
theorem dX1_sizeOf_1 : decode cX1_sizeOf 1 = .ok (.iconst 0, 1) := by decide +kernel
theorem dX1_sizeOf_2 : decode cX1_sizeOf 2 = .ok (.putfield 13, 3) := by decide +kernel
theorem dX1_sizeOf_5 : decode cX1_sizeOf 5 = .ok (.aload_n 0, 1) := by decide +kernel
theorem dX1_sizeOf_6 : decode cX1_sizeOf 6 = .ok (.getstatic 17, 3) := by decide +kernel
theorem dX1_sizeOf_9 : decode cX1_sizeOf 9 = .ok (.aload_n 1, 1) := by decide +kernel
theorem dX1_sizeOf_10 : decode cX1_sizeOf 10 = .ok (.getfield 20, 3) := by decide +kernel
theorem dX1_sizeOf_13 : decode cX1_sizeOf 13 = .ok (.iload_n 2, 1) := by decide +kernel
theorem dX1_sizeOf_14 : decode cX1_sizeOf 14 = .ok (.iaload, 1) := by decide +kernel
theorem dX1_sizeOf_15 : decode cX1_sizeOf 15 = .ok (.iaload, 1) := by decide +kernel
theorem dX1_sizeOf_16 : decode cX1_sizeOf 16 = .ok (.aload_n 1, 1) := by decide +kernel
theorem dX1_sizeOf_17 : decode cX1_sizeOf 17 = .ok (.iload_n 2, 1) := by decide +kernel
theorem dX1_sizeOf_18 : decode cX1_sizeOf 18 = .ok (.iconst 0, 1) := by decide +kernel
theorem dX1_sizeOf_19 : decode cX1_sizeOf 19 = .ok (.invokevirtual 25, 3) := by decide +kernel
theorem dX1_sizeOf_22 : decode cX1_sizeOf 22 = .ok (.ireturn, 1) := by decide +kernel
theorem dX1_markOf_0 : decode cX1_markOf 0 = .ok (.aload_n 0, 1) := by decide +kernel
theorem dX1_markOf_1 : decode cX1_markOf 1 = .ok (.iconst 0, 1) := by decide +kernel
theorem dX1_markOf_2 : decode cX1_markOf 2 = .ok (.putfield 13, 3) := by decide +kernel
theorem dX1_markOf_5 : decode cX1_markOf 5 = .ok (.aload_n 0, 1) := by decide +kernel
theorem dX1_markOf_6 : decode cX1_markOf 6 = .ok (.getstatic 29, 3) := by decide +kernel
theorem dX1_markOf_9 : decode cX1_markOf 9 = .ok (.aload_n 1, 1) := by decide +kernel
theorem dX1_markOf_10 : decode cX1_markOf 10 = .ok (.getfield 20, 3) := by decide +kernel
theorem dX1_markOf_13 : decode cX1_markOf 13 = .ok (.iload_n 2, 1) := by decide +kernel
theorem dX1_markOf_14 : decode cX1_markOf 14 = .ok (.iaload, 1) := by decide +kernel
theorem dX1_markOf_15 : decode cX1_markOf 15 = .ok (.iaload, 1) := by decide +kernel
theorem dX1_markOf_16 : decode cX1_markOf 16 = .ok (.aload_n 1, 1) := by decide +kernel
theorem dX1_markOf_17 : decode cX1_markOf 17 = .ok (.iload_n 2, 1) := by decide +kernel
theorem dX1_markOf_18 : decode cX1_markOf 18 = .ok (.iconst 0, 1) := by decide +kernel
theorem dX1_markOf_19 : decode cX1_markOf 19 = .ok (.invokevirtual 25, 3) := by decide +kernel
theorem dX1_markOf_22 : decode cX1_markOf 22 = .ok (.ireturn, 1) := by decide +kernel
theorem dX1_give_0 : decode cX1_give 0 = .ok (.iload 4, 2) := by decide +kernel
theorem dX1_give_2 : decode cX1_give 2 = .ok (.bipush 16, 2) := by decide +kernel
theorem dX1_give_4 : decode cX1_give 4 = .ok (.if_icmp .le 5, 3) := by decide +kernel
theorem dX1_give_7 : decode cX1_give 7 = .ok (.iconst 0, 1) := by decide +kernel
theorem dX1_give_8 : decode cX1_give 8 = .ok (.ireturn, 1) := by decide +kernel
theorem dX1_give_9 : decode cX1_give 9 = .ok (.aload_n 0, 1) := by decide +kernel
theorem dX1_give_10 : decode cX1_give 10 = .ok (.iload_n 1, 1) := by decide +kernel
theorem dX1_give_11 : decode cX1_give 11 = .ok (.invokevirtual 32, 3) := by decide +kernel
theorem dX1_give_14 : decode cX1_give 14 = .ok (.iload 4, 2) := by decide +kernel
theorem dX1_give_16 : decode cX1_give 16 = .ok (.iconst 1, 1) := by decide +kernel
theorem dX1_give_17 : decode cX1_give 17 = .ok (.iadd, 1) := by decide +kernel
theorem dX1_give_18 : decode cX1_give 18 = .ok (.istore 5, 2) := by decide +kernel
theorem dX1_give_20 : decode cX1_give 20 = .ok (.aload_n 2, 1) := by decide +kernel
theorem dX1_give_21 : decode cX1_give 21 = .ok (.getfield 20, 3) := by decide +kernel
theorem dX1_give_24 : decode cX1_give 24 = .ok (.iload_n 3, 1) := by decide +kernel
theorem dX1_give_25 : decode cX1_give 25 = .ok (.iaload, 1) := by decide +kernel
theorem dX1_give_26 : decode cX1_give 26 = .ok (.istore 6, 2) := by decide +kernel
theorem dX1_give_28 : decode cX1_give 28 = .ok (.iload_n 1, 1) := by decide +kernel
theorem dX1_give_29 : decode cX1_give 29 = .ok (.tableswitch 222 10 24 #[75, 82, 108, 121, 135, 222, 222, 222, 222, 222, 148, 150, 168, 183, 209], 75) := by decide +kernel
theorem dX1_give_104 : decode cX1_give 104 = .ok (.aload_n 2, 1) := by decide +kernel
theorem dX1_give_105 : decode cX1_give 105 = .ok (.getfield 36, 3) := by decide +kernel
theorem dX1_give_108 : decode cX1_give 108 = .ok (.iload_n 3, 1) := by decide +kernel
theorem dX1_give_109 : decode cX1_give 109 = .ok (.iaload, 1) := by decide +kernel
theorem dX1_give_110 : decode cX1_give 110 = .ok (.ireturn, 1) := by decide +kernel
theorem dX1_give_111 : decode cX1_give 111 = .ok (.aload_n 0, 1) := by decide +kernel
theorem dX1_give_112 : decode cX1_give 112 = .ok (.bipush 10, 2) := by decide +kernel
theorem dX1_give_114 : decode cX1_give 114 = .ok (.aload_n 2, 1) := by decide +kernel
theorem dX1_give_115 : decode cX1_give 115 = .ok (.iload_n 3, 1) := by decide +kernel
theorem dX1_give_116 : decode cX1_give 116 = .ok (.iload 5, 2) := by decide +kernel
theorem dX1_give_118 : decode cX1_give 118 = .ok (.invokevirtual 25, 3) := by decide +kernel
theorem dX1_give_121 : decode cX1_give 121 = .ok (.aload_n 0, 1) := by decide +kernel
theorem dX1_give_122 : decode cX1_give 122 = .ok (.getstatic 29, 3) := by decide +kernel
theorem dX1_give_125 : decode cX1_give 125 = .ok (.iload 6, 2) := by decide +kernel
theorem dX1_give_127 : decode cX1_give 127 = .ok (.iaload, 1) := by decide +kernel
theorem dX1_give_128 : decode cX1_give 128 = .ok (.aload_n 2, 1) := by decide +kernel
theorem dX1_give_129 : decode cX1_give 129 = .ok (.iload_n 3, 1) := by decide +kernel
theorem dX1_give_130 : decode cX1_give 130 = .ok (.iload 5, 2) := by decide +kernel
theorem dX1_give_132 : decode cX1_give 132 = .ok (.invokevirtual 25, 3) := by decide +kernel
theorem dX1_give_135 : decode cX1_give 135 = .ok (.iadd, 1) := by decide +kernel
theorem dX1_give_136 : decode cX1_give 136 = .ok (.ireturn, 1) := by decide +kernel
theorem dX1_give_137 : decode cX1_give 137 = .ok (.iconst 0, 1) := by decide +kernel
theorem dX1_give_138 : decode cX1_give 138 = .ok (.aload_n 0, 1) := by decide +kernel
theorem dX1_give_139 : decode cX1_give 139 = .ok (.bipush 11, 2) := by decide +kernel
theorem dX1_give_141 : decode cX1_give 141 = .ok (.aload_n 2, 1) := by decide +kernel
theorem dX1_give_142 : decode cX1_give 142 = .ok (.iload_n 3, 1) := by decide +kernel
theorem dX1_give_143 : decode cX1_give 143 = .ok (.iload 5, 2) := by decide +kernel
theorem dX1_give_145 : decode cX1_give 145 = .ok (.invokevirtual 25, 3) := by decide +kernel
theorem dX1_give_148 : decode cX1_give 148 = .ok (.isub, 1) := by decide +kernel
theorem dX1_give_149 : decode cX1_give 149 = .ok (.ireturn, 1) := by decide +kernel
theorem dX1_give_150 : decode cX1_give 150 = .ok (.aload_n 0, 1) := by decide +kernel
theorem dX1_give_151 : decode cX1_give 151 = .ok (.bipush 10, 2) := by decide +kernel
theorem dX1_give_153 : decode cX1_give 153 = .ok (.aload_n 2, 1) := by decide +kernel
theorem dX1_give_154 : decode cX1_give 154 = .ok (.iload_n 3, 1) := by decide +kernel
theorem dX1_give_155 : decode cX1_give 155 = .ok (.iload 5, 2) := by decide +kernel
theorem dX1_give_157 : decode cX1_give 157 = .ok (.invokevirtual 25, 3) := by decide +kernel
theorem dX1_give_160 : decode cX1_give 160 = .ok (.bipush 100, 2) := by decide +kernel
theorem dX1_give_162 : decode cX1_give 162 = .ok (.isub, 1) := by decide +kernel
theorem dX1_give_163 : decode cX1_give 163 = .ok (.ireturn, 1) := by decide +kernel
theorem dX1_give_164 : decode cX1_give 164 = .ok (.iconst 2, 1) := by decide +kernel
theorem dX1_give_165 : decode cX1_give 165 = .ok (.aload_n 0, 1) := by decide +kernel
theorem dX1_give_166 : decode cX1_give 166 = .ok (.bipush 13, 2) := by decide +kernel
theorem dX1_give_168 : decode cX1_give 168 = .ok (.aload_n 2, 1) := by decide +kernel
theorem dX1_give_169 : decode cX1_give 169 = .ok (.iload_n 3, 1) := by decide +kernel
theorem dX1_give_170 : decode cX1_give 170 = .ok (.iload 5, 2) := by decide +kernel
theorem dX1_give_172 : decode cX1_give 172 = .ok (.invokevirtual 25, 3) := by decide +kernel
theorem dX1_give_175 : decode cX1_give 175 = .ok (.imul, 1) := by decide +kernel
theorem dX1_give_176 : decode cX1_give 176 = .ok (.ireturn, 1) := by decide +kernel
theorem dX1_give_177 : decode cX1_give 177 = .ok (.iload_n 3, 1) := by decide +kernel
theorem dX1_give_178 : decode cX1_give 178 = .ok (.ireturn, 1) := by decide +kernel
theorem dX1_give_179 : decode cX1_give 179 = .ok (.aload_n 0, 1) := by decide +kernel
theorem dX1_give_180 : decode cX1_give 180 = .ok (.bipush 20, 2) := by decide +kernel
theorem dX1_give_182 : decode cX1_give 182 = .ok (.aload_n 2, 1) := by decide +kernel
theorem dX1_give_183 : decode cX1_give 183 = .ok (.iload_n 3, 1) := by decide +kernel
theorem dX1_give_184 : decode cX1_give 184 = .ok (.iload 5, 2) := by decide +kernel
theorem dX1_give_186 : decode cX1_give 186 = .ok (.invokevirtual 25, 3) := by decide +kernel
theorem dX1_give_189 : decode cX1_give 189 = .ok (.aload_n 2, 1) := by decide +kernel
theorem dX1_give_190 : decode cX1_give 190 = .ok (.getfield 39, 3) := by decide +kernel
theorem dX1_give_193 : decode cX1_give 193 = .ok (.iload_n 3, 1) := by decide +kernel
theorem dX1_give_194 : decode cX1_give 194 = .ok (.iaload, 1) := by decide +kernel
theorem dX1_give_195 : decode cX1_give 195 = .ok (.iadd, 1) := by decide +kernel
theorem dX1_give_196 : decode cX1_give 196 = .ok (.ireturn, 1) := by decide +kernel
theorem dX1_give_197 : decode cX1_give 197 = .ok (.aload_n 0, 1) := by decide +kernel
theorem dX1_give_198 : decode cX1_give 198 = .ok (.bipush 21, 2) := by decide +kernel
theorem dX1_give_200 : decode cX1_give 200 = .ok (.aload_n 2, 1) := by decide +kernel
theorem dX1_give_201 : decode cX1_give 201 = .ok (.iload_n 3, 1) := by decide +kernel
theorem dX1_give_202 : decode cX1_give 202 = .ok (.iload 5, 2) := by decide +kernel
theorem dX1_give_204 : decode cX1_give 204 = .ok (.invokevirtual 25, 3) := by decide +kernel
theorem dX1_give_207 : decode cX1_give 207 = .ok (.sipush 1000, 3) := by decide +kernel
theorem dX1_give_210 : decode cX1_give 210 = .ok (.isub, 1) := by decide +kernel
theorem dX1_give_211 : decode cX1_give 211 = .ok (.ireturn, 1) := by decide +kernel
theorem dX1_give_212 : decode cX1_give 212 = .ok (.aload_n 0, 1) := by decide +kernel
theorem dX1_give_213 : decode cX1_give 213 = .ok (.bipush 20, 2) := by decide +kernel
theorem dX1_give_215 : decode cX1_give 215 = .ok (.aload_n 2, 1) := by decide +kernel
theorem dX1_give_216 : decode cX1_give 216 = .ok (.iload_n 3, 1) := by decide +kernel
theorem dX1_give_217 : decode cX1_give 217 = .ok (.iload 5, 2) := by decide +kernel
theorem dX1_give_219 : decode cX1_give 219 = .ok (.invokevirtual 25, 3) := by decide +kernel
theorem dX1_give_222 : decode cX1_give 222 = .ok (.aload_n 0, 1) := by decide +kernel
theorem dX1_give_223 : decode cX1_give 223 = .ok (.getstatic 17, 3) := by decide +kernel
theorem dX1_give_226 : decode cX1_give 226 = .ok (.iload 6, 2) := by decide +kernel
theorem dX1_give_228 : decode cX1_give 228 = .ok (.iaload, 1) := by decide +kernel
theorem dX1_give_229 : decode cX1_give 229 = .ok (.aload_n 2, 1) := by decide +kernel
theorem dX1_give_230 : decode cX1_give 230 = .ok (.iload_n 3, 1) := by decide +kernel
theorem dX1_give_231 : decode cX1_give 231 = .ok (.iload 5, 2) := by decide +kernel
theorem dX1_give_233 : decode cX1_give 233 = .ok (.invokevirtual 25, 3) := by decide +kernel
theorem dX1_give_236 : decode cX1_give 236 = .ok (.isub, 1) := by decide +kernel
theorem dX1_give_237 : decode cX1_give 237 = .ok (.ireturn, 1) := by decide +kernel
theorem dX1_give_238 : decode cX1_give 238 = .ok (.iconst 2, 1) := by decide +kernel
theorem dX1_give_239 : decode cX1_give 239 = .ok (.aload_n 0, 1) := by decide +kernel
theorem dX1_give_240 : decode cX1_give 240 = .ok (.bipush 21, 2) := by decide +kernel
theorem dX1_give_242 : decode cX1_give 242 = .ok (.aload_n 2, 1) := by decide +kernel
theorem dX1_give_243 : decode cX1_give 243 = .ok (.iload_n 3, 1) := by decide +kernel
theorem dX1_give_244 : decode cX1_give 244 = .ok (.iload 5, 2) := by decide +kernel
theorem dX1_give_246 : decode cX1_give 246 = .ok (.invokevirtual 25, 3) := by decide +kernel
theorem dX1_give_249 : decode cX1_give 249 = .ok (.imul, 1) := by decide +kernel
theorem dX1_give_250 : decode cX1_give 250 = .ok (.ireturn, 1) := by decide +kernel
theorem dX1_give_251 : decode cX1_give 251 = .ok (.iconst 0, 1) := by decide +kernel
theorem dX1_give_252 : decode cX1_give 252 = .ok (.ireturn, 1) := by decide +kernel
theorem dX1_leave_0 : decode cX1_leave 0 = .ok (.aload_n 0, 1) := by decide +kernel
theorem dX1_leave_1 : decode cX1_leave 1 = .ok (.getfield 13, 3) := by decide +kernel
theorem dX1_leave_4 : decode cX1_leave 4 = .ok (.bipush 16, 2) := by decide +kernel
theorem dX1_leave_6 : decode cX1_leave 6 = .ok (.if_icmp .ge 23, 3) := by decide +kernel
theorem dX1_leave_9 : decode cX1_leave 9 = .ok (.aload_n 0, 1) := by decide +kernel
theorem dX1_leave_10 : decode cX1_leave 10 = .ok (.getfield 9, 3) := by decide +kernel
theorem dX1_leave_13 : decode cX1_leave 13 = .ok (.aload_n 0, 1) := by decide +kernel
theorem dX1_leave_14 : decode cX1_leave 14 = .ok (.getfield 13, 3) := by decide +kernel
theorem dX1_leave_17 : decode cX1_leave 17 = .ok (.iload_n 1, 1) := by decide +kernel
theorem dX1_leave_18 : decode cX1_leave 18 = .ok (.iastore, 1) := by decide +kernel
theorem dX1_leave_19 : decode cX1_leave 19 = .ok (.aload_n 0, 1) := by decide +kernel
theorem dX1_leave_20 : decode cX1_leave 20 = .ok (.dup, 1) := by decide +kernel
theorem dX1_leave_21 : decode cX1_leave 21 = .ok (.getfield 13, 3) := by decide +kernel
theorem dX1_leave_24 : decode cX1_leave 24 = .ok (.iconst 1, 1) := by decide +kernel
theorem dX1_leave_25 : decode cX1_leave 25 = .ok (.iadd, 1) := by decide +kernel
theorem dX1_leave_26 : decode cX1_leave 26 = .ok (.putfield 13, 3) := by decide +kernel
theorem dX1_leave_29 : decode cX1_leave 29 = .ok (.return_, 1) := by decide +kernel
theorem dX2_init_0 : decode cX2_init 0 = .ok (.aload_n 0, 1) := by decide +kernel
theorem dX2_init_1 : decode cX2_init 1 = .ok (.invokespecial 3, 3) := by decide +kernel
theorem dX2_init_4 : decode cX2_init 4 = .ok (.aload_n 0, 1) := by decide +kernel
theorem dX2_init_5 : decode cX2_init 5 = .ok (.bipush 8, 2) := by decide +kernel
theorem dX2_init_7 : decode cX2_init 7 = .ok (.newarray .int, 2) := by decide +kernel
theorem dX2_init_9 : decode cX2_init 9 = .ok (.putfield 9, 3) := by decide +kernel
theorem dX2_init_12 : decode cX2_init 12 = .ok (.aload_n 0, 1) := by decide +kernel
theorem dX2_init_13 : decode cX2_init 13 = .ok (.bipush 8, 2) := by decide +kernel
theorem dX2_init_15 : decode cX2_init 15 = .ok (.newarray .int, 2) := by decide +kernel
theorem dX2_init_17 : decode cX2_init 17 = .ok (.putfield 15, 3) := by decide +kernel
theorem dX2_init_20 : decode cX2_init 20 = .ok (.aload_n 0, 1) := by decide +kernel
theorem dX2_init_21 : decode cX2_init 21 = .ok (.bipush 8, 2) := by decide +kernel
theorem dX2_init_23 : decode cX2_init 23 = .ok (.newarray .int, 2) := by decide +kernel
theorem dX2_init_25 : decode cX2_init 25 = .ok (.putfield 18, 3) := by decide +kernel
theorem dX2_init_28 : decode cX2_init 28 = .ok (.aload_n 0, 1) := by decide +kernel
theorem dX2_init_29 : decode cX2_init 29 = .ok (.bipush 8, 2) := by decide +kernel
theorem dX2_init_31 : decode cX2_init 31 = .ok (.newarray .int, 2) := by decide +kernel
theorem dX2_init_33 : decode cX2_init 33 = .ok (.putfield 21, 3) := by decide +kernel
theorem dX2_init_36 : decode cX2_init 36 = .ok (.aload_n 0, 1) := by decide +kernel
theorem dX2_init_37 : decode cX2_init 37 = .ok (.bipush 8, 2) := by decide +kernel
theorem dX2_init_39 : decode cX2_init 39 = .ok (.newarray .int, 2) := by decide +kernel
theorem dX2_init_41 : decode cX2_init 41 = .ok (.putfield 24, 3) := by decide +kernel
theorem dX2_init_44 : decode cX2_init 44 = .ok (.aload_n 0, 1) := by decide +kernel
theorem dX2_init_45 : decode cX2_init 45 = .ok (.bipush 8, 2) := by decide +kernel
theorem dX2_init_47 : decode cX2_init 47 = .ok (.newarray .int, 2) := by decide +kernel
theorem dX2_init_49 : decode cX2_init 49 = .ok (.putfield 27, 3) := by decide +kernel
theorem dX2_init_52 : decode cX2_init 52 = .ok (.aload_n 0, 1) := by decide +kernel
theorem dX2_init_53 : decode cX2_init 53 = .ok (.bipush 8, 2) := by decide +kernel
theorem dX2_init_55 : decode cX2_init 55 = .ok (.newarray .int, 2) := by decide +kernel
theorem dX2_init_57 : decode cX2_init 57 = .ok (.putfield 30, 3) := by decide +kernel
theorem dX2_init_60 : decode cX2_init 60 = .ok (.aload_n 0, 1) := by decide +kernel
theorem dX2_init_61 : decode cX2_init 61 = .ok (.bipush 20, 2) := by decide +kernel
theorem dX2_init_63 : decode cX2_init 63 = .ok (.newarray .int, 2) := by decide +kernel
theorem dX2_init_65 : decode cX2_init 65 = .ok (.putfield 33, 3) := by decide +kernel
theorem dX2_init_68 : decode cX2_init 68 = .ok (.return_, 1) := by decide +kernel
theorem dX2_clear_0 : decode cX2_clear 0 = .ok (.aload_n 0, 1) := by decide +kernel
theorem dX2_clear_1 : decode cX2_clear 1 = .ok (.iconst 0, 1) := by decide +kernel
theorem dX2_clear_2 : decode cX2_clear 2 = .ok (.putfield 36, 3) := by decide +kernel
theorem dX2_clear_5 : decode cX2_clear 5 = .ok (.aload_n 0, 1) := by decide +kernel
theorem dX2_clear_6 : decode cX2_clear 6 = .ok (.iconst 0, 1) := by decide +kernel
theorem dX2_clear_7 : decode cX2_clear 7 = .ok (.putfield 40, 3) := by decide +kernel
theorem dX2_clear_10 : decode cX2_clear 10 = .ok (.aload_n 0, 1) := by decide +kernel
theorem dX2_clear_11 : decode cX2_clear 11 = .ok (.iconst 0, 1) := by decide +kernel
theorem dX2_clear_12 : decode cX2_clear 12 = .ok (.putfield 43, 3) := by decide +kernel
theorem dX2_clear_15 : decode cX2_clear 15 = .ok (.aload_n 0, 1) := by decide +kernel
theorem dX2_clear_16 : decode cX2_clear 16 = .ok (.iconst 0, 1) := by decide +kernel
theorem dX2_clear_17 : decode cX2_clear 17 = .ok (.putfield 46, 3) := by decide +kernel
theorem dX2_clear_20 : decode cX2_clear 20 = .ok (.aload_n 0, 1) := by decide +kernel
theorem dX2_clear_21 : decode cX2_clear 21 = .ok (.invokevirtual 49, 3) := by decide +kernel
theorem dX2_clear_24 : decode cX2_clear 24 = .ok (.return_, 1) := by decide +kernel
theorem dX2_addBar_0 : decode cX2_addBar 0 = .ok (.aload_n 0, 1) := by decide +kernel
theorem dX2_addBar_1 : decode cX2_addBar 1 = .ok (.getfield 36, 3) := by decide +kernel
theorem dX2_addBar_4 : decode cX2_addBar 4 = .ok (.bipush 8, 2) := by decide +kernel
theorem dX2_addBar_6 : decode cX2_addBar 6 = .ok (.if_icmp .lt 4, 3) := by decide +kernel
theorem dX2_addBar_9 : decode cX2_addBar 9 = .ok (.return_, 1) := by decide +kernel
theorem dX2_addBar_10 : decode cX2_addBar 10 = .ok (.aload_n 0, 1) := by decide +kernel
theorem dX2_addBar_11 : decode cX2_addBar 11 = .ok (.aload_n 0, 1) := by decide +kernel
theorem dX2_addBar_12 : decode cX2_addBar 12 = .ok (.getfield 36, 3) := by decide +kernel
theorem dX2_addBar_15 : decode cX2_addBar 15 = .ok (.iload_n 1, 1) := by decide +kernel
theorem dX2_addBar_16 : decode cX2_addBar 16 = .ok (.iload_n 2, 1) := by decide +kernel
theorem dX2_addBar_17 : decode cX2_addBar 17 = .ok (.invokevirtual 52, 3) := by decide +kernel
theorem dX2_addBar_20 : decode cX2_addBar 20 = .ok (.aload_n 0, 1) := by decide +kernel
theorem dX2_addBar_21 : decode cX2_addBar 21 = .ok (.getfield 21, 3) := by decide +kernel
theorem dX2_addBar_24 : decode cX2_addBar 24 = .ok (.aload_n 0, 1) := by decide +kernel
theorem dX2_addBar_25 : decode cX2_addBar 25 = .ok (.getfield 36, 3) := by decide +kernel
theorem dX2_addBar_28 : decode cX2_addBar 28 = .ok (.aload_n 0, 1) := by decide +kernel
theorem dX2_addBar_29 : decode cX2_addBar 29 = .ok (.getfield 36, 3) := by decide +kernel
theorem dX2_addBar_32 : decode cX2_addBar 32 = .ok (.iastore, 1) := by decide +kernel
theorem dX2_addBar_33 : decode cX2_addBar 33 = .ok (.aload_n 0, 1) := by decide +kernel
theorem dX2_addBar_34 : decode cX2_addBar 34 = .ok (.getfield 24, 3) := by decide +kernel
theorem dX2_addBar_37 : decode cX2_addBar 37 = .ok (.aload_n 0, 1) := by decide +kernel
theorem dX2_addBar_38 : decode cX2_addBar 38 = .ok (.getfield 36, 3) := by decide +kernel
theorem dX2_addBar_41 : decode cX2_addBar 41 = .ok (.aload_n 0, 1) := by decide +kernel
theorem dX2_addBar_42 : decode cX2_addBar 42 = .ok (.getfield 36, 3) := by decide +kernel
theorem dX2_addBar_45 : decode cX2_addBar 45 = .ok (.iastore, 1) := by decide +kernel
theorem dX2_addBar_46 : decode cX2_addBar 46 = .ok (.aload_n 0, 1) := by decide +kernel
theorem dX2_addBar_47 : decode cX2_addBar 47 = .ok (.getfield 27, 3) := by decide +kernel
theorem dX2_addBar_50 : decode cX2_addBar 50 = .ok (.aload_n 0, 1) := by decide +kernel
theorem dX2_addBar_51 : decode cX2_addBar 51 = .ok (.getfield 36, 3) := by decide +kernel
theorem dX2_addBar_54 : decode cX2_addBar 54 = .ok (.iconst 0, 1) := by decide +kernel
theorem dX2_addBar_55 : decode cX2_addBar 55 = .ok (.iastore, 1) := by decide +kernel
theorem dX2_addBar_56 : decode cX2_addBar 56 = .ok (.aload_n 0, 1) := by decide +kernel
theorem dX2_addBar_57 : decode cX2_addBar 57 = .ok (.getfield 30, 3) := by decide +kernel
theorem dX2_addBar_60 : decode cX2_addBar 60 = .ok (.aload_n 0, 1) := by decide +kernel
theorem dX2_addBar_61 : decode cX2_addBar 61 = .ok (.getfield 36, 3) := by decide +kernel
theorem dX2_addBar_64 : decode cX2_addBar 64 = .ok (.iconst 0, 1) := by decide +kernel
theorem dX2_addBar_65 : decode cX2_addBar 65 = .ok (.iastore, 1) := by decide +kernel
theorem dX2_addBar_66 : decode cX2_addBar 66 = .ok (.aload_n 0, 1) := by decide +kernel
theorem dX2_addBar_67 : decode cX2_addBar 67 = .ok (.dup, 1) := by decide +kernel
theorem dX2_addBar_68 : decode cX2_addBar 68 = .ok (.getfield 36, 3) := by decide +kernel
theorem dX2_addBar_71 : decode cX2_addBar 71 = .ok (.iconst 1, 1) := by decide +kernel
theorem dX2_addBar_72 : decode cX2_addBar 72 = .ok (.iadd, 1) := by decide +kernel
theorem dX2_addBar_73 : decode cX2_addBar 73 = .ok (.putfield 36, 3) := by decide +kernel
theorem dX2_addBar_76 : decode cX2_addBar 76 = .ok (.return_, 1) := by decide +kernel
theorem dX2_become_0 : decode cX2_become 0 = .ok (.aload_n 1, 1) := by decide +kernel
theorem dX2_become_1 : decode cX2_become 1 = .ok (.getfield 9, 3) := by decide +kernel
theorem dX2_become_4 : decode cX2_become 4 = .ok (.iconst 0, 1) := by decide +kernel
theorem dX2_become_5 : decode cX2_become 5 = .ok (.aload_n 0, 1) := by decide +kernel
theorem dX2_become_6 : decode cX2_become 6 = .ok (.getfield 9, 3) := by decide +kernel
theorem dX2_become_9 : decode cX2_become 9 = .ok (.iconst 0, 1) := by decide +kernel
theorem dX2_become_10 : decode cX2_become 10 = .ok (.bipush 8, 2) := by decide +kernel
theorem dX2_become_12 : decode cX2_become 12 = .ok (.invokestatic 56, 3) := by decide +kernel
theorem dX2_become_15 : decode cX2_become 15 = .ok (.aload_n 1, 1) := by decide +kernel
theorem dX2_become_16 : decode cX2_become 16 = .ok (.getfield 15, 3) := by decide +kernel
theorem dX2_become_19 : decode cX2_become 19 = .ok (.iconst 0, 1) := by decide +kernel
theorem dX2_become_20 : decode cX2_become 20 = .ok (.aload_n 0, 1) := by decide +kernel
theorem dX2_become_21 : decode cX2_become 21 = .ok (.getfield 15, 3) := by decide +kernel
theorem dX2_become_24 : decode cX2_become 24 = .ok (.iconst 0, 1) := by decide +kernel
theorem dX2_become_25 : decode cX2_become 25 = .ok (.bipush 8, 2) := by decide +kernel
theorem dX2_become_27 : decode cX2_become 27 = .ok (.invokestatic 56, 3) := by decide +kernel
theorem dX2_become_30 : decode cX2_become 30 = .ok (.aload_n 1, 1) := by decide +kernel
theorem dX2_become_31 : decode cX2_become 31 = .ok (.getfield 18, 3) := by decide +kernel
theorem dX2_become_34 : decode cX2_become 34 = .ok (.iconst 0, 1) := by decide +kernel
theorem dX2_become_35 : decode cX2_become 35 = .ok (.aload_n 0, 1) := by decide +kernel
theorem dX2_become_36 : decode cX2_become 36 = .ok (.getfield 18, 3) := by decide +kernel
theorem dX2_become_39 : decode cX2_become 39 = .ok (.iconst 0, 1) := by decide +kernel
theorem dX2_become_40 : decode cX2_become 40 = .ok (.bipush 8, 2) := by decide +kernel
theorem dX2_become_42 : decode cX2_become 42 = .ok (.invokestatic 56, 3) := by decide +kernel
theorem dX2_become_45 : decode cX2_become 45 = .ok (.aload_n 1, 1) := by decide +kernel
theorem dX2_become_46 : decode cX2_become 46 = .ok (.getfield 21, 3) := by decide +kernel
theorem dX2_become_49 : decode cX2_become 49 = .ok (.iconst 0, 1) := by decide +kernel
theorem dX2_become_50 : decode cX2_become 50 = .ok (.aload_n 0, 1) := by decide +kernel
theorem dX2_become_51 : decode cX2_become 51 = .ok (.getfield 21, 3) := by decide +kernel
theorem dX2_become_54 : decode cX2_become 54 = .ok (.iconst 0, 1) := by decide +kernel
theorem dX2_become_55 : decode cX2_become 55 = .ok (.bipush 8, 2) := by decide +kernel
theorem dX2_become_57 : decode cX2_become 57 = .ok (.invokestatic 56, 3) := by decide +kernel
theorem dX2_become_60 : decode cX2_become 60 = .ok (.aload_n 1, 1) := by decide +kernel
theorem dX2_become_61 : decode cX2_become 61 = .ok (.getfield 24, 3) := by decide +kernel
theorem dX2_become_64 : decode cX2_become 64 = .ok (.iconst 0, 1) := by decide +kernel
theorem dX2_become_65 : decode cX2_become 65 = .ok (.aload_n 0, 1) := by decide +kernel
theorem dX2_become_66 : decode cX2_become 66 = .ok (.getfield 24, 3) := by decide +kernel
theorem dX2_become_69 : decode cX2_become 69 = .ok (.iconst 0, 1) := by decide +kernel
theorem dX2_become_70 : decode cX2_become 70 = .ok (.bipush 8, 2) := by decide +kernel
theorem dX2_become_72 : decode cX2_become 72 = .ok (.invokestatic 56, 3) := by decide +kernel
theorem dX2_become_75 : decode cX2_become 75 = .ok (.aload_n 1, 1) := by decide +kernel
theorem dX2_become_76 : decode cX2_become 76 = .ok (.getfield 27, 3) := by decide +kernel
theorem dX2_become_79 : decode cX2_become 79 = .ok (.iconst 0, 1) := by decide +kernel
theorem dX2_become_80 : decode cX2_become 80 = .ok (.aload_n 0, 1) := by decide +kernel
theorem dX2_become_81 : decode cX2_become 81 = .ok (.getfield 27, 3) := by decide +kernel
theorem dX2_become_84 : decode cX2_become 84 = .ok (.iconst 0, 1) := by decide +kernel
theorem dX2_become_85 : decode cX2_become 85 = .ok (.bipush 8, 2) := by decide +kernel
theorem dX2_become_87 : decode cX2_become 87 = .ok (.invokestatic 56, 3) := by decide +kernel
theorem dX2_become_90 : decode cX2_become 90 = .ok (.aload_n 1, 1) := by decide +kernel
theorem dX2_become_91 : decode cX2_become 91 = .ok (.getfield 30, 3) := by decide +kernel
theorem dX2_become_94 : decode cX2_become 94 = .ok (.iconst 0, 1) := by decide +kernel
theorem dX2_become_95 : decode cX2_become 95 = .ok (.aload_n 0, 1) := by decide +kernel
theorem dX2_become_96 : decode cX2_become 96 = .ok (.getfield 30, 3) := by decide +kernel
theorem dX2_become_99 : decode cX2_become 99 = .ok (.iconst 0, 1) := by decide +kernel
theorem dX2_become_100 : decode cX2_become 100 = .ok (.bipush 8, 2) := by decide +kernel
theorem dX2_become_102 : decode cX2_become 102 = .ok (.invokestatic 56, 3) := by decide +kernel
theorem dX2_become_105 : decode cX2_become 105 = .ok (.aload_n 1, 1) := by decide +kernel
theorem dX2_become_106 : decode cX2_become 106 = .ok (.getfield 33, 3) := by decide +kernel
theorem dX2_become_109 : decode cX2_become 109 = .ok (.iconst 0, 1) := by decide +kernel
theorem dX2_become_110 : decode cX2_become 110 = .ok (.aload_n 0, 1) := by decide +kernel
theorem dX2_become_111 : decode cX2_become 111 = .ok (.getfield 33, 3) := by decide +kernel
theorem dX2_become_114 : decode cX2_become 114 = .ok (.iconst 0, 1) := by decide +kernel
theorem dX2_become_115 : decode cX2_become 115 = .ok (.bipush 20, 2) := by decide +kernel
theorem dX2_become_117 : decode cX2_become 117 = .ok (.invokestatic 56, 3) := by decide +kernel
theorem dX2_become_120 : decode cX2_become 120 = .ok (.aload_n 0, 1) := by decide +kernel
theorem dX2_become_121 : decode cX2_become 121 = .ok (.aload_n 1, 1) := by decide +kernel
theorem dX2_become_122 : decode cX2_become 122 = .ok (.getfield 36, 3) := by decide +kernel
theorem dX2_become_125 : decode cX2_become 125 = .ok (.putfield 36, 3) := by decide +kernel
theorem dX2_become_128 : decode cX2_become 128 = .ok (.aload_n 0, 1) := by decide +kernel
theorem dX2_become_129 : decode cX2_become 129 = .ok (.aload_n 1, 1) := by decide +kernel
theorem dX2_become_130 : decode cX2_become 130 = .ok (.getfield 40, 3) := by decide +kernel
theorem dX2_become_133 : decode cX2_become 133 = .ok (.putfield 40, 3) := by decide +kernel
theorem dX2_become_136 : decode cX2_become 136 = .ok (.aload_n 0, 1) := by decide +kernel
theorem dX2_become_137 : decode cX2_become 137 = .ok (.aload_n 1, 1) := by decide +kernel
theorem dX2_become_138 : decode cX2_become 138 = .ok (.getfield 43, 3) := by decide +kernel
theorem dX2_become_141 : decode cX2_become 141 = .ok (.putfield 43, 3) := by decide +kernel
theorem dX2_become_144 : decode cX2_become 144 = .ok (.aload_n 0, 1) := by decide +kernel
theorem dX2_become_145 : decode cX2_become 145 = .ok (.aload_n 1, 1) := by decide +kernel
theorem dX2_become_146 : decode cX2_become 146 = .ok (.getfield 62, 3) := by decide +kernel
theorem dX2_become_149 : decode cX2_become 149 = .ok (.putfield 62, 3) := by decide +kernel
theorem dX2_become_152 : decode cX2_become 152 = .ok (.aload_n 0, 1) := by decide +kernel
theorem dX2_become_153 : decode cX2_become 153 = .ok (.aload_n 1, 1) := by decide +kernel
theorem dX2_become_154 : decode cX2_become 154 = .ok (.getfield 46, 3) := by decide +kernel
theorem dX2_become_157 : decode cX2_become 157 = .ok (.putfield 46, 3) := by decide +kernel
theorem dX2_become_160 : decode cX2_become 160 = .ok (.return_, 1) := by decide +kernel
theorem dX2_has_0 : decode cX2_has 0 = .ok (.iload_n 1, 1) := by decide +kernel
theorem dX2_has_1 : decode cX2_has 1 = .ok (.ifCond .lt 15, 3) := by decide +kernel
theorem dX2_has_4 : decode cX2_has 4 = .ok (.iload_n 1, 1) := by decide +kernel
theorem dX2_has_5 : decode cX2_has 5 = .ok (.aload_n 0, 1) := by decide +kernel
theorem dX2_has_6 : decode cX2_has 6 = .ok (.getfield 36, 3) := by decide +kernel
theorem dX2_has_9 : decode cX2_has 9 = .ok (.if_icmp .ge 7, 3) := by decide +kernel
theorem dX2_has_12 : decode cX2_has 12 = .ok (.iconst 1, 1) := by decide +kernel
theorem dX2_has_13 : decode cX2_has 13 = .ok (.goto 4, 3) := by decide +kernel
theorem dX2_has_16 : decode cX2_has 16 = .ok (.iconst 0, 1) := by decide +kernel
theorem dX2_has_17 : decode cX2_has 17 = .ok (.ireturn, 1) := by decide +kernel
theorem dX2_moves_0 : decode cX2_moves 0 = .ok (.aload_n 0, 1) := by decide +kernel
theorem dX2_moves_1 : decode cX2_moves 1 = .ok (.getfield 40, 3) := by decide +kernel
theorem dX2_moves_4 : decode cX2_moves 4 = .ok (.iconst 1, 1) := by decide +kernel
theorem dX2_moves_5 : decode cX2_moves 5 = .ok (.iload_n 1, 1) := by decide +kernel
theorem dX2_moves_6 : decode cX2_moves 6 = .ok (.ishl, 1) := by decide +kernel
theorem dX2_moves_7 : decode cX2_moves 7 = .ok (.iand, 1) := by decide +kernel
theorem dX2_moves_8 : decode cX2_moves 8 = .ok (.ifCond .eq 7, 3) := by decide +kernel
theorem dX2_moves_11 : decode cX2_moves 11 = .ok (.iconst 1, 1) := by decide +kernel
theorem dX2_moves_12 : decode cX2_moves 12 = .ok (.goto 4, 3) := by decide +kernel
theorem dX2_moves_15 : decode cX2_moves 15 = .ok (.iconst 0, 1) := by decide +kernel
theorem dX2_moves_16 : decode cX2_moves 16 = .ok (.ireturn, 1) := by decide +kernel
theorem dX2_hangs_0 : decode cX2_hangs 0 = .ok (.aload_n 0, 1) := by decide +kernel
theorem dX2_hangs_1 : decode cX2_hangs 1 = .ok (.getfield 43, 3) := by decide +kernel
theorem dX2_hangs_4 : decode cX2_hangs 4 = .ok (.iconst 1, 1) := by decide +kernel
theorem dX2_hangs_5 : decode cX2_hangs 5 = .ok (.iload_n 1, 1) := by decide +kernel
theorem dX2_hangs_6 : decode cX2_hangs 6 = .ok (.ishl, 1) := by decide +kernel
theorem dX2_hangs_7 : decode cX2_hangs 7 = .ok (.iand, 1) := by decide +kernel
theorem dX2_hangs_8 : decode cX2_hangs 8 = .ok (.ifCond .eq 7, 3) := by decide +kernel
theorem dX2_hangs_11 : decode cX2_hangs 11 = .ok (.iconst 1, 1) := by decide +kernel
theorem dX2_hangs_12 : decode cX2_hangs 12 = .ok (.goto 4, 3) := by decide +kernel
theorem dX2_hangs_15 : decode cX2_hangs 15 = .ok (.iconst 0, 1) := by decide +kernel
theorem dX2_hangs_16 : decode cX2_hangs 16 = .ok (.ireturn, 1) := by decide +kernel
theorem dX2_rests_0 : decode cX2_rests 0 = .ok (.aload_n 0, 1) := by decide +kernel
theorem dX2_rests_1 : decode cX2_rests 1 = .ok (.iload_n 1, 1) := by decide +kernel
theorem dX2_rests_2 : decode cX2_rests 2 = .ok (.invokevirtual 65, 3) := by decide +kernel
theorem dX2_rests_5 : decode cX2_rests 5 = .ok (.ifCond .eq 23, 3) := by decide +kernel
theorem dX2_rests_8 : decode cX2_rests 8 = .ok (.aload_n 0, 1) := by decide +kernel
theorem dX2_rests_9 : decode cX2_rests 9 = .ok (.getfield 40, 3) := by decide +kernel
theorem dX2_rests_12 : decode cX2_rests 12 = .ok (.aload_n 0, 1) := by decide +kernel
theorem dX2_rests_13 : decode cX2_rests 13 = .ok (.getfield 43, 3) := by decide +kernel
theorem dX2_rests_16 : decode cX2_rests 16 = .ok (.ior, 1) := by decide +kernel
theorem dX2_rests_17 : decode cX2_rests 17 = .ok (.iconst 1, 1) := by decide +kernel
theorem dX2_rests_18 : decode cX2_rests 18 = .ok (.iload_n 1, 1) := by decide +kernel
theorem dX2_rests_19 : decode cX2_rests 19 = .ok (.ishl, 1) := by decide +kernel
theorem dX2_rests_20 : decode cX2_rests 20 = .ok (.iand, 1) := by decide +kernel
theorem dX2_rests_21 : decode cX2_rests 21 = .ok (.ifCond .ne 7, 3) := by decide +kernel
theorem dX2_rests_24 : decode cX2_rests 24 = .ok (.iconst 1, 1) := by decide +kernel
theorem dX2_rests_25 : decode cX2_rests 25 = .ok (.goto 4, 3) := by decide +kernel
theorem dX2_rests_28 : decode cX2_rests 28 = .ok (.iconst 0, 1) := by decide +kernel
theorem dX2_rests_29 : decode cX2_rests 29 = .ok (.ireturn, 1) := by decide +kernel
theorem dX2_shape_0 : decode cX2_shape 0 = .ok (.aload_n 0, 1) := by decide +kernel
theorem dX2_shape_1 : decode cX2_shape 1 = .ok (.getfield 9, 3) := by decide +kernel
theorem dX2_shape_4 : decode cX2_shape 4 = .ok (.iload_n 1, 1) := by decide +kernel
theorem dX2_shape_5 : decode cX2_shape 5 = .ok (.iload_n 2, 1) := by decide +kernel
theorem dX2_shape_6 : decode cX2_shape 6 = .ok (.iastore, 1) := by decide +kernel
theorem dX2_shape_7 : decode cX2_shape 7 = .ok (.aload_n 0, 1) := by decide +kernel
theorem dX2_shape_8 : decode cX2_shape 8 = .ok (.getfield 15, 3) := by decide +kernel
theorem dX2_shape_11 : decode cX2_shape 11 = .ok (.iload_n 1, 1) := by decide +kernel
theorem dX2_shape_12 : decode cX2_shape 12 = .ok (.iload_n 3, 1) := by decide +kernel
theorem dX2_shape_13 : decode cX2_shape 13 = .ok (.iastore, 1) := by decide +kernel
theorem dX2_shape_14 : decode cX2_shape 14 = .ok (.aload_n 0, 1) := by decide +kernel
theorem dX2_shape_15 : decode cX2_shape 15 = .ok (.getfield 18, 3) := by decide +kernel
theorem dX2_shape_18 : decode cX2_shape 18 = .ok (.iload_n 1, 1) := by decide +kernel
theorem dX2_shape_19 : decode cX2_shape 19 = .ok (.iload_n 2, 1) := by decide +kernel
theorem dX2_shape_20 : decode cX2_shape 20 = .ok (.iconst 2, 1) := by decide +kernel
theorem dX2_shape_21 : decode cX2_shape 21 = .ok (.if_icmp .ne 9, 3) := by decide +kernel
theorem dX2_shape_24 : decode cX2_shape 24 = .ok (.iload_n 3, 1) := by decide +kernel
theorem dX2_shape_25 : decode cX2_shape 25 = .ok (.iconst 1, 1) := by decide +kernel
theorem dX2_shape_26 : decode cX2_shape 26 = .ok (.iadd, 1) := by decide +kernel
theorem dX2_shape_27 : decode cX2_shape 27 = .ok (.goto 4, 3) := by decide +kernel
theorem dX2_shape_30 : decode cX2_shape 30 = .ok (.iload_n 3, 1) := by decide +kernel
theorem dX2_shape_31 : decode cX2_shape 31 = .ok (.iastore, 1) := by decide +kernel
theorem dX2_shape_32 : decode cX2_shape 32 = .ok (.return_, 1) := by decide +kernel
theorem dX2_press_0 : decode cX2_press 0 = .ok (.aload_n 0, 1) := by decide +kernel
theorem dX2_press_1 : decode cX2_press 1 = .ok (.iload_n 1, 1) := by decide +kernel
theorem dX2_press_2 : decode cX2_press 2 = .ok (.iconst 0, 1) := by decide +kernel
theorem dX2_press_3 : decode cX2_press 3 = .ok (.invokevirtual 69, 3) := by decide +kernel
theorem dX2_press_6 : decode cX2_press 6 = .ok (.return_, 1) := by decide +kernel
theorem dX2_startAt_0 : decode cX2_startAt 0 = .ok (.aload_n 0, 1) := by decide +kernel
theorem dX2_startAt_1 : decode cX2_startAt 1 = .ok (.dup, 1) := by decide +kernel
theorem dX2_startAt_2 : decode cX2_startAt 2 = .ok (.getfield 43, 3) := by decide +kernel
theorem dX2_startAt_5 : decode cX2_startAt 5 = .ok (.iconst 1, 1) := by decide +kernel
theorem dX2_startAt_6 : decode cX2_startAt 6 = .ok (.iload_n 1, 1) := by decide +kernel
theorem dX2_startAt_7 : decode cX2_startAt 7 = .ok (.ishl, 1) := by decide +kernel
theorem dX2_startAt_8 : decode cX2_startAt 8 = .ok (.iconst (-1), 1) := by decide +kernel
theorem dX2_startAt_9 : decode cX2_startAt 9 = .ok (.ixor, 1) := by decide +kernel
theorem dX2_startAt_10 : decode cX2_startAt 10 = .ok (.iand, 1) := by decide +kernel
theorem dX2_startAt_11 : decode cX2_startAt 11 = .ok (.putfield 43, 3) := by decide +kernel
theorem dX2_startAt_14 : decode cX2_startAt 14 = .ok (.aload_n 0, 1) := by decide +kernel
theorem dX2_startAt_15 : decode cX2_startAt 15 = .ok (.dup, 1) := by decide +kernel
theorem dX2_startAt_16 : decode cX2_startAt 16 = .ok (.getfield 40, 3) := by decide +kernel
theorem dX2_startAt_19 : decode cX2_startAt 19 = .ok (.iconst 1, 1) := by decide +kernel
theorem dX2_startAt_20 : decode cX2_startAt 20 = .ok (.iload_n 1, 1) := by decide +kernel
theorem dX2_startAt_21 : decode cX2_startAt 21 = .ok (.ishl, 1) := by decide +kernel
theorem dX2_startAt_22 : decode cX2_startAt 22 = .ok (.ior, 1) := by decide +kernel
theorem dX2_startAt_23 : decode cX2_startAt 23 = .ok (.putfield 40, 3) := by decide +kernel
theorem dX2_startAt_26 : decode cX2_startAt 26 = .ok (.aload_n 0, 1) := by decide +kernel
theorem dX2_startAt_27 : decode cX2_startAt 27 = .ok (.getfield 27, 3) := by decide +kernel
theorem dX2_startAt_30 : decode cX2_startAt 30 = .ok (.iload_n 1, 1) := by decide +kernel
theorem dX2_startAt_31 : decode cX2_startAt 31 = .ok (.iload_n 2, 1) := by decide +kernel
theorem dX2_startAt_32 : decode cX2_startAt 32 = .ok (.iastore, 1) := by decide +kernel
theorem dX2_startAt_33 : decode cX2_startAt 33 = .ok (.aload_n 0, 1) := by decide +kernel
theorem dX2_startAt_34 : decode cX2_startAt 34 = .ok (.getfield 30, 3) := by decide +kernel
theorem dX2_startAt_37 : decode cX2_startAt 37 = .ok (.iload_n 1, 1) := by decide +kernel
theorem dX2_startAt_38 : decode cX2_startAt 38 = .ok (.iconst 0, 1) := by decide +kernel
theorem dX2_startAt_39 : decode cX2_startAt 39 = .ok (.iastore, 1) := by decide +kernel
theorem dX2_startAt_40 : decode cX2_startAt 40 = .ok (.return_, 1) := by decide +kernel
theorem dX2_layDown_0 : decode cX2_layDown 0 = .ok (.iconst 0, 1) := by decide +kernel
theorem dX2_layDown_1 : decode cX2_layDown 1 = .ok (.istore_n 2, 1) := by decide +kernel
theorem dX2_layDown_2 : decode cX2_layDown 2 = .ok (.iload_n 2, 1) := by decide +kernel
theorem dX2_layDown_3 : decode cX2_layDown 3 = .ok (.aload_n 0, 1) := by decide +kernel
theorem dX2_layDown_4 : decode cX2_layDown 4 = .ok (.getfield 36, 3) := by decide +kernel
theorem dX2_layDown_7 : decode cX2_layDown 7 = .ok (.if_icmp .ge 24, 3) := by decide +kernel
theorem dX2_layDown_10 : decode cX2_layDown 10 = .ok (.iload_n 1, 1) := by decide +kernel
theorem dX2_layDown_11 : decode cX2_layDown 11 = .ok (.iconst 1, 1) := by decide +kernel
theorem dX2_layDown_12 : decode cX2_layDown 12 = .ok (.iload_n 2, 1) := by decide +kernel
theorem dX2_layDown_13 : decode cX2_layDown 13 = .ok (.ishl, 1) := by decide +kernel
theorem dX2_layDown_14 : decode cX2_layDown 14 = .ok (.iand, 1) := by decide +kernel
theorem dX2_layDown_15 : decode cX2_layDown 15 = .ok (.ifCond .eq 10, 3) := by decide +kernel
theorem dX2_layDown_18 : decode cX2_layDown 18 = .ok (.aload_n 0, 1) := by decide +kernel
theorem dX2_layDown_19 : decode cX2_layDown 19 = .ok (.getfield 30, 3) := by decide +kernel
theorem dX2_layDown_22 : decode cX2_layDown 22 = .ok (.iload_n 2, 1) := by decide +kernel
theorem dX2_layDown_23 : decode cX2_layDown 23 = .ok (.iconst 0, 1) := by decide +kernel
theorem dX2_layDown_24 : decode cX2_layDown 24 = .ok (.iastore, 1) := by decide +kernel
theorem dX2_layDown_25 : decode cX2_layDown 25 = .ok (.iinc 2 1, 3) := by decide +kernel
theorem dX2_layDown_28 : decode cX2_layDown 28 = .ok (.goto (-26), 3) := by decide +kernel
theorem dX2_layDown_31 : decode cX2_layDown 31 = .ok (.aload_n 0, 1) := by decide +kernel
theorem dX2_layDown_32 : decode cX2_layDown 32 = .ok (.dup, 1) := by decide +kernel
theorem dX2_layDown_33 : decode cX2_layDown 33 = .ok (.getfield 40, 3) := by decide +kernel
theorem dX2_layDown_36 : decode cX2_layDown 36 = .ok (.iload_n 1, 1) := by decide +kernel
theorem dX2_layDown_37 : decode cX2_layDown 37 = .ok (.iconst (-1), 1) := by decide +kernel
theorem dX2_layDown_38 : decode cX2_layDown 38 = .ok (.ixor, 1) := by decide +kernel
theorem dX2_layDown_39 : decode cX2_layDown 39 = .ok (.iand, 1) := by decide +kernel
theorem dX2_layDown_40 : decode cX2_layDown 40 = .ok (.putfield 40, 3) := by decide +kernel
theorem dX2_layDown_43 : decode cX2_layDown 43 = .ok (.aload_n 0, 1) := by decide +kernel
theorem dX2_layDown_44 : decode cX2_layDown 44 = .ok (.dup, 1) := by decide +kernel
theorem dX2_layDown_45 : decode cX2_layDown 45 = .ok (.getfield 43, 3) := by decide +kernel
theorem dX2_layDown_48 : decode cX2_layDown 48 = .ok (.iload_n 1, 1) := by decide +kernel
theorem dX2_layDown_49 : decode cX2_layDown 49 = .ok (.iconst (-1), 1) := by decide +kernel
theorem dX2_layDown_50 : decode cX2_layDown 50 = .ok (.ixor, 1) := by decide +kernel
theorem dX2_layDown_51 : decode cX2_layDown 51 = .ok (.iand, 1) := by decide +kernel
theorem dX2_layDown_52 : decode cX2_layDown 52 = .ok (.putfield 43, 3) := by decide +kernel
theorem dX2_layDown_55 : decode cX2_layDown 55 = .ok (.return_, 1) := by decide +kernel
theorem dX2_bringBack_0 : decode cX2_bringBack 0 = .ok (.aload_n 0, 1) := by decide +kernel
theorem dX2_bringBack_1 : decode cX2_bringBack 1 = .ok (.iconst 0, 1) := by decide +kernel
theorem dX2_bringBack_2 : decode cX2_bringBack 2 = .ok (.putfield 62, 3) := by decide +kernel
theorem dX2_bringBack_5 : decode cX2_bringBack 5 = .ok (.aload_n 0, 1) := by decide +kernel
theorem dX2_bringBack_6 : decode cX2_bringBack 6 = .ok (.getfield 33, 3) := by decide +kernel
theorem dX2_bringBack_9 : decode cX2_bringBack 9 = .ok (.iconst 0, 1) := by decide +kernel
theorem dX2_bringBack_10 : decode cX2_bringBack 10 = .ok (.invokestatic 73, 3) := by decide +kernel
theorem dX2_bringBack_13 : decode cX2_bringBack 13 = .ok (.return_, 1) := by decide +kernel
theorem dX2_exchange_0 : decode cX2_exchange 0 = .ok (.aload_n 0, 1) := by decide +kernel
theorem dX2_exchange_1 : decode cX2_exchange 1 = .ok (.getfield 21, 3) := by decide +kernel
theorem dX2_exchange_4 : decode cX2_exchange 4 = .ok (.iload_n 1, 1) := by decide +kernel
theorem dX2_exchange_5 : decode cX2_exchange 5 = .ok (.iaload, 1) := by decide +kernel
theorem dX2_exchange_6 : decode cX2_exchange 6 = .ok (.istore_n 3, 1) := by decide +kernel
theorem dX2_exchange_7 : decode cX2_exchange 7 = .ok (.aload_n 0, 1) := by decide +kernel
theorem dX2_exchange_8 : decode cX2_exchange 8 = .ok (.getfield 21, 3) := by decide +kernel
theorem dX2_exchange_11 : decode cX2_exchange 11 = .ok (.iload_n 1, 1) := by decide +kernel
theorem dX2_exchange_12 : decode cX2_exchange 12 = .ok (.aload_n 0, 1) := by decide +kernel
theorem dX2_exchange_13 : decode cX2_exchange 13 = .ok (.getfield 21, 3) := by decide +kernel
theorem dX2_exchange_16 : decode cX2_exchange 16 = .ok (.iload_n 2, 1) := by decide +kernel
theorem dX2_exchange_17 : decode cX2_exchange 17 = .ok (.iaload, 1) := by decide +kernel
theorem dX2_exchange_18 : decode cX2_exchange 18 = .ok (.iastore, 1) := by decide +kernel
theorem dX2_exchange_19 : decode cX2_exchange 19 = .ok (.aload_n 0, 1) := by decide +kernel
theorem dX2_exchange_20 : decode cX2_exchange 20 = .ok (.getfield 21, 3) := by decide +kernel
theorem dX2_exchange_23 : decode cX2_exchange 23 = .ok (.iload_n 2, 1) := by decide +kernel
theorem dX2_exchange_24 : decode cX2_exchange 24 = .ok (.iload_n 3, 1) := by decide +kernel
theorem dX2_exchange_25 : decode cX2_exchange 25 = .ok (.iastore, 1) := by decide +kernel
theorem dX2_exchange_26 : decode cX2_exchange 26 = .ok (.aload_n 0, 1) := by decide +kernel
theorem dX2_exchange_27 : decode cX2_exchange 27 = .ok (.getfield 24, 3) := by decide +kernel
theorem dX2_exchange_30 : decode cX2_exchange 30 = .ok (.aload_n 0, 1) := by decide +kernel
theorem dX2_exchange_31 : decode cX2_exchange 31 = .ok (.getfield 21, 3) := by decide +kernel
theorem dX2_exchange_34 : decode cX2_exchange 34 = .ok (.iload_n 1, 1) := by decide +kernel
theorem dX2_exchange_35 : decode cX2_exchange 35 = .ok (.iaload, 1) := by decide +kernel
theorem dX2_exchange_36 : decode cX2_exchange 36 = .ok (.iload_n 1, 1) := by decide +kernel
theorem dX2_exchange_37 : decode cX2_exchange 37 = .ok (.iastore, 1) := by decide +kernel
theorem dX2_exchange_38 : decode cX2_exchange 38 = .ok (.aload_n 0, 1) := by decide +kernel
theorem dX2_exchange_39 : decode cX2_exchange 39 = .ok (.getfield 24, 3) := by decide +kernel
theorem dX2_exchange_42 : decode cX2_exchange 42 = .ok (.aload_n 0, 1) := by decide +kernel
theorem dX2_exchange_43 : decode cX2_exchange 43 = .ok (.getfield 21, 3) := by decide +kernel
theorem dX2_exchange_46 : decode cX2_exchange 46 = .ok (.iload_n 2, 1) := by decide +kernel
theorem dX2_exchange_47 : decode cX2_exchange 47 = .ok (.iaload, 1) := by decide +kernel
theorem dX2_exchange_48 : decode cX2_exchange 48 = .ok (.iload_n 2, 1) := by decide +kernel
theorem dX2_exchange_49 : decode cX2_exchange 49 = .ok (.iastore, 1) := by decide +kernel
theorem dX2_exchange_50 : decode cX2_exchange 50 = .ok (.return_, 1) := by decide +kernel
theorem dX2_pass_0 : decode cX2_pass 0 = .ok (.aload_n 0, 1) := by decide +kernel
theorem dX2_pass_1 : decode cX2_pass 1 = .ok (.invokevirtual 79, 3) := by decide +kernel
theorem dX2_pass_4 : decode cX2_pass 4 = .ok (.aload_n 0, 1) := by decide +kernel
theorem dX2_pass_5 : decode cX2_pass 5 = .ok (.invokevirtual 82, 3) := by decide +kernel
theorem dX2_pass_8 : decode cX2_pass 8 = .ok (.istore_n 1, 1) := by decide +kernel
theorem dX2_pass_9 : decode cX2_pass 9 = .ok (.aload_n 0, 1) := by decide +kernel
theorem dX2_pass_10 : decode cX2_pass 10 = .ok (.dup, 1) := by decide +kernel
theorem dX2_pass_11 : decode cX2_pass 11 = .ok (.getfield 43, 3) := by decide +kernel
theorem dX2_pass_14 : decode cX2_pass 14 = .ok (.iload_n 1, 1) := by decide +kernel
theorem dX2_pass_15 : decode cX2_pass 15 = .ok (.ior, 1) := by decide +kernel
theorem dX2_pass_16 : decode cX2_pass 16 = .ok (.putfield 43, 3) := by decide +kernel
theorem dX2_pass_19 : decode cX2_pass 19 = .ok (.aload_n 0, 1) := by decide +kernel
theorem dX2_pass_20 : decode cX2_pass 20 = .ok (.dup, 1) := by decide +kernel
theorem dX2_pass_21 : decode cX2_pass 21 = .ok (.getfield 40, 3) := by decide +kernel
theorem dX2_pass_24 : decode cX2_pass 24 = .ok (.iload_n 1, 1) := by decide +kernel
theorem dX2_pass_25 : decode cX2_pass 25 = .ok (.iconst (-1), 1) := by decide +kernel
theorem dX2_pass_26 : decode cX2_pass 26 = .ok (.ixor, 1) := by decide +kernel
theorem dX2_pass_27 : decode cX2_pass 27 = .ok (.iand, 1) := by decide +kernel
theorem dX2_pass_28 : decode cX2_pass 28 = .ok (.putfield 40, 3) := by decide +kernel
theorem dX2_pass_31 : decode cX2_pass 31 = .ok (.aload_n 0, 1) := by decide +kernel
theorem dX2_pass_32 : decode cX2_pass 32 = .ok (.dup, 1) := by decide +kernel
theorem dX2_pass_33 : decode cX2_pass 33 = .ok (.getfield 46, 3) := by decide +kernel
theorem dX2_pass_36 : decode cX2_pass 36 = .ok (.iconst 1, 1) := by decide +kernel
theorem dX2_pass_37 : decode cX2_pass 37 = .ok (.iadd, 1) := by decide +kernel
theorem dX2_pass_38 : decode cX2_pass 38 = .ok (.putfield 46, 3) := by decide +kernel
theorem dX2_pass_41 : decode cX2_pass 41 = .ok (.aload_n 0, 1) := by decide +kernel
theorem dX2_pass_42 : decode cX2_pass 42 = .ok (.invokevirtual 86, 3) := by decide +kernel
theorem dX2_pass_45 : decode cX2_pass 45 = .ok (.ireturn, 1) := by decide +kernel
theorem dX2_foresee_0 : decode cX2_foresee 0 = .ok (.iconst 0, 1) := by decide +kernel
theorem dX2_foresee_1 : decode cX2_foresee 1 = .ok (.istore_n 2, 1) := by decide +kernel
theorem dX2_foresee_2 : decode cX2_foresee 2 = .ok (.iload_n 2, 1) := by decide +kernel
theorem dX2_foresee_3 : decode cX2_foresee 3 = .ok (.iload_n 1, 1) := by decide +kernel
theorem dX2_foresee_4 : decode cX2_foresee 4 = .ok (.if_icmp .ge 21, 3) := by decide +kernel
theorem dX2_foresee_7 : decode cX2_foresee 7 = .ok (.aload_n 0, 1) := by decide +kernel
theorem dX2_foresee_8 : decode cX2_foresee 8 = .ok (.getfield 40, 3) := by decide +kernel
theorem dX2_foresee_11 : decode cX2_foresee 11 = .ok (.ifCond .eq 14, 3) := by decide +kernel
theorem dX2_foresee_14 : decode cX2_foresee 14 = .ok (.aload_n 0, 1) := by decide +kernel
theorem dX2_foresee_15 : decode cX2_foresee 15 = .ok (.invokevirtual 89, 3) := by decide +kernel
theorem dX2_foresee_18 : decode cX2_foresee 18 = .ok (.pop, 1) := by decide +kernel
theorem dX2_foresee_19 : decode cX2_foresee 19 = .ok (.iinc 2 1, 3) := by decide +kernel
theorem dX2_foresee_22 : decode cX2_foresee 22 = .ok (.goto (-20), 3) := by decide +kernel
theorem dX2_foresee_25 : decode cX2_foresee 25 = .ok (.return_, 1) := by decide +kernel
theorem dX2_riseAndFall_0 : decode cX2_riseAndFall 0 = .ok (.iconst 0, 1) := by decide +kernel
theorem dX2_riseAndFall_1 : decode cX2_riseAndFall 1 = .ok (.istore_n 1, 1) := by decide +kernel
theorem dX2_riseAndFall_2 : decode cX2_riseAndFall 2 = .ok (.iload_n 1, 1) := by decide +kernel
theorem dX2_riseAndFall_3 : decode cX2_riseAndFall 3 = .ok (.aload_n 0, 1) := by decide +kernel
theorem dX2_riseAndFall_4 : decode cX2_riseAndFall 4 = .ok (.getfield 36, 3) := by decide +kernel
theorem dX2_riseAndFall_7 : decode cX2_riseAndFall 7 = .ok (.if_icmp .ge 65, 3) := by decide +kernel
theorem dX2_riseAndFall_10 : decode cX2_riseAndFall 10 = .ok (.aload_n 0, 1) := by decide +kernel
theorem dX2_riseAndFall_11 : decode cX2_riseAndFall 11 = .ok (.iload_n 1, 1) := by decide +kernel
theorem dX2_riseAndFall_12 : decode cX2_riseAndFall 12 = .ok (.invokevirtual 92, 3) := by decide +kernel
theorem dX2_riseAndFall_15 : decode cX2_riseAndFall 15 = .ok (.ifCond .eq 51, 3) := by decide +kernel
theorem dX2_riseAndFall_18 : decode cX2_riseAndFall 18 = .ok (.aload_n 0, 1) := by decide +kernel
theorem dX2_riseAndFall_19 : decode cX2_riseAndFall 19 = .ok (.getfield 27, 3) := by decide +kernel
theorem dX2_riseAndFall_22 : decode cX2_riseAndFall 22 = .ok (.iload_n 1, 1) := by decide +kernel
theorem dX2_riseAndFall_23 : decode cX2_riseAndFall 23 = .ok (.dup2, 1) := by decide +kernel
theorem dX2_riseAndFall_24 : decode cX2_riseAndFall 24 = .ok (.iaload, 1) := by decide +kernel
theorem dX2_riseAndFall_25 : decode cX2_riseAndFall 25 = .ok (.iconst 1, 1) := by decide +kernel
theorem dX2_riseAndFall_26 : decode cX2_riseAndFall 26 = .ok (.iadd, 1) := by decide +kernel
theorem dX2_riseAndFall_27 : decode cX2_riseAndFall 27 = .ok (.iastore, 1) := by decide +kernel
theorem dX2_riseAndFall_28 : decode cX2_riseAndFall 28 = .ok (.aload_n 0, 1) := by decide +kernel
theorem dX2_riseAndFall_29 : decode cX2_riseAndFall 29 = .ok (.getfield 30, 3) := by decide +kernel
theorem dX2_riseAndFall_32 : decode cX2_riseAndFall 32 = .ok (.iload_n 1, 1) := by decide +kernel
theorem dX2_riseAndFall_33 : decode cX2_riseAndFall 33 = .ok (.iconst 0, 1) := by decide +kernel
theorem dX2_riseAndFall_34 : decode cX2_riseAndFall 34 = .ok (.aload_n 0, 1) := by decide +kernel
theorem dX2_riseAndFall_35 : decode cX2_riseAndFall 35 = .ok (.iload_n 1, 1) := by decide +kernel
theorem dX2_riseAndFall_36 : decode cX2_riseAndFall 36 = .ok (.invokevirtual 95, 3) := by decide +kernel
theorem dX2_riseAndFall_39 : decode cX2_riseAndFall 39 = .ok (.invokestatic 99, 3) := by decide +kernel
theorem dX2_riseAndFall_42 : decode cX2_riseAndFall 42 = .ok (.iastore, 1) := by decide +kernel
theorem dX2_riseAndFall_43 : decode cX2_riseAndFall 43 = .ok (.aload_n 0, 1) := by decide +kernel
theorem dX2_riseAndFall_44 : decode cX2_riseAndFall 44 = .ok (.getfield 30, 3) := by decide +kernel
theorem dX2_riseAndFall_47 : decode cX2_riseAndFall 47 = .ok (.iload_n 1, 1) := by decide +kernel
theorem dX2_riseAndFall_48 : decode cX2_riseAndFall 48 = .ok (.iaload, 1) := by decide +kernel
theorem dX2_riseAndFall_49 : decode cX2_riseAndFall 49 = .ok (.ifCond .ne 17, 3) := by decide +kernel
theorem dX2_riseAndFall_52 : decode cX2_riseAndFall 52 = .ok (.aload_n 0, 1) := by decide +kernel
theorem dX2_riseAndFall_53 : decode cX2_riseAndFall 53 = .ok (.dup, 1) := by decide +kernel
theorem dX2_riseAndFall_54 : decode cX2_riseAndFall 54 = .ok (.getfield 40, 3) := by decide +kernel
theorem dX2_riseAndFall_57 : decode cX2_riseAndFall 57 = .ok (.iconst 1, 1) := by decide +kernel
theorem dX2_riseAndFall_58 : decode cX2_riseAndFall 58 = .ok (.iload_n 1, 1) := by decide +kernel
theorem dX2_riseAndFall_59 : decode cX2_riseAndFall 59 = .ok (.ishl, 1) := by decide +kernel
theorem dX2_riseAndFall_60 : decode cX2_riseAndFall 60 = .ok (.iconst (-1), 1) := by decide +kernel
theorem dX2_riseAndFall_61 : decode cX2_riseAndFall 61 = .ok (.ixor, 1) := by decide +kernel
theorem dX2_riseAndFall_62 : decode cX2_riseAndFall 62 = .ok (.iand, 1) := by decide +kernel
theorem dX2_riseAndFall_63 : decode cX2_riseAndFall 63 = .ok (.putfield 40, 3) := by decide +kernel
theorem dX2_riseAndFall_66 : decode cX2_riseAndFall 66 = .ok (.iinc 1 1, 3) := by decide +kernel
theorem dX2_riseAndFall_69 : decode cX2_riseAndFall 69 = .ok (.goto (-67), 3) := by decide +kernel
theorem dX2_riseAndFall_72 : decode cX2_riseAndFall 72 = .ok (.return_, 1) := by decide +kernel
theorem dX2_heightByTime_0 : decode cX2_heightByTime 0 = .ok (.aload_n 0, 1) := by decide +kernel
theorem dX2_heightByTime_1 : decode cX2_heightByTime 1 = .ok (.getfield 27, 3) := by decide +kernel
theorem dX2_heightByTime_4 : decode cX2_heightByTime 4 = .ok (.iload_n 1, 1) := by decide +kernel
theorem dX2_heightByTime_5 : decode cX2_heightByTime 5 = .ok (.iaload, 1) := by decide +kernel
theorem dX2_heightByTime_6 : decode cX2_heightByTime 6 = .ok (.aload_n 0, 1) := by decide +kernel
theorem dX2_heightByTime_7 : decode cX2_heightByTime 7 = .ok (.getfield 18, 3) := by decide +kernel
theorem dX2_heightByTime_10 : decode cX2_heightByTime 10 = .ok (.iload_n 1, 1) := by decide +kernel
theorem dX2_heightByTime_11 : decode cX2_heightByTime 11 = .ok (.iaload, 1) := by decide +kernel
theorem dX2_heightByTime_12 : decode cX2_heightByTime 12 = .ok (.isub, 1) := by decide +kernel
theorem dX2_heightByTime_13 : decode cX2_heightByTime 13 = .ok (.istore_n 2, 1) := by decide +kernel
theorem dX2_heightByTime_14 : decode cX2_heightByTime 14 = .ok (.iload_n 2, 1) := by decide +kernel
theorem dX2_heightByTime_15 : decode cX2_heightByTime 15 = .ok (.ifCond .gt 10, 3) := by decide +kernel
theorem dX2_heightByTime_18 : decode cX2_heightByTime 18 = .ok (.aload_n 0, 1) := by decide +kernel
theorem dX2_heightByTime_19 : decode cX2_heightByTime 19 = .ok (.getfield 27, 3) := by decide +kernel
theorem dX2_heightByTime_22 : decode cX2_heightByTime 22 = .ok (.iload_n 1, 1) := by decide +kernel
theorem dX2_heightByTime_23 : decode cX2_heightByTime 23 = .ok (.iaload, 1) := by decide +kernel
theorem dX2_heightByTime_24 : decode cX2_heightByTime 24 = .ok (.ireturn, 1) := by decide +kernel
theorem dX2_heightByTime_25 : decode cX2_heightByTime 25 = .ok (.aload_n 0, 1) := by decide +kernel
theorem dX2_heightByTime_26 : decode cX2_heightByTime 26 = .ok (.getfield 9, 3) := by decide +kernel
theorem dX2_heightByTime_29 : decode cX2_heightByTime 29 = .ok (.iload_n 1, 1) := by decide +kernel
theorem dX2_heightByTime_30 : decode cX2_heightByTime 30 = .ok (.iaload, 1) := by decide +kernel
theorem dX2_heightByTime_31 : decode cX2_heightByTime 31 = .ok (.iconst 3, 1) := by decide +kernel
theorem dX2_heightByTime_32 : decode cX2_heightByTime 32 = .ok (.if_icmp .ne 16, 3) := by decide +kernel
theorem dX2_heightByTime_35 : decode cX2_heightByTime 35 = .ok (.aload_n 0, 1) := by decide +kernel
theorem dX2_heightByTime_36 : decode cX2_heightByTime 36 = .ok (.getfield 18, 3) := by decide +kernel
theorem dX2_heightByTime_39 : decode cX2_heightByTime 39 = .ok (.iload_n 1, 1) := by decide +kernel
theorem dX2_heightByTime_40 : decode cX2_heightByTime 40 = .ok (.iaload, 1) := by decide +kernel
theorem dX2_heightByTime_41 : decode cX2_heightByTime 41 = .ok (.iconst 2, 1) := by decide +kernel
theorem dX2_heightByTime_42 : decode cX2_heightByTime 42 = .ok (.iload_n 2, 1) := by decide +kernel
theorem dX2_heightByTime_43 : decode cX2_heightByTime 43 = .ok (.imul, 1) := by decide +kernel
theorem dX2_heightByTime_44 : decode cX2_heightByTime 44 = .ok (.isub, 1) := by decide +kernel
theorem dX2_heightByTime_45 : decode cX2_heightByTime 45 = .ok (.goto 11, 3) := by decide +kernel
theorem dX2_heightByTime_48 : decode cX2_heightByTime 48 = .ok (.aload_n 0, 1) := by decide +kernel
theorem dX2_heightByTime_49 : decode cX2_heightByTime 49 = .ok (.getfield 18, 3) := by decide +kernel
theorem dX2_heightByTime_52 : decode cX2_heightByTime 52 = .ok (.iload_n 1, 1) := by decide +kernel
theorem dX2_heightByTime_53 : decode cX2_heightByTime 53 = .ok (.iaload, 1) := by decide +kernel
theorem dX2_heightByTime_54 : decode cX2_heightByTime 54 = .ok (.iload_n 2, 1) := by decide +kernel
theorem dX2_heightByTime_55 : decode cX2_heightByTime 55 = .ok (.isub, 1) := by decide +kernel
theorem dX2_heightByTime_56 : decode cX2_heightByTime 56 = .ok (.ireturn, 1) := by decide +kernel
theorem dX2_meeting_0 : decode cX2_meeting 0 = .ok (.iconst 0, 1) := by decide +kernel
theorem dX2_meeting_1 : decode cX2_meeting 1 = .ok (.istore_n 1, 1) := by decide +kernel
theorem dX2_meeting_2 : decode cX2_meeting 2 = .ok (.iconst 0, 1) := by decide +kernel
theorem dX2_meeting_3 : decode cX2_meeting 3 = .ok (.istore_n 2, 1) := by decide +kernel
theorem dX2_meeting_4 : decode cX2_meeting 4 = .ok (.iload_n 2, 1) := by decide +kernel
theorem dX2_meeting_5 : decode cX2_meeting 5 = .ok (.aload_n 0, 1) := by decide +kernel
theorem dX2_meeting_6 : decode cX2_meeting 6 = .ok (.getfield 36, 3) := by decide +kernel
theorem dX2_meeting_9 : decode cX2_meeting 9 = .ok (.if_icmp .ge 30, 3) := by decide +kernel
theorem dX2_meeting_12 : decode cX2_meeting 12 = .ok (.aload_n 0, 1) := by decide +kernel
theorem dX2_meeting_13 : decode cX2_meeting 13 = .ok (.getfield 30, 3) := by decide +kernel
theorem dX2_meeting_16 : decode cX2_meeting 16 = .ok (.iload_n 2, 1) := by decide +kernel
theorem dX2_meeting_17 : decode cX2_meeting 17 = .ok (.iaload, 1) := by decide +kernel
theorem dX2_meeting_18 : decode cX2_meeting 18 = .ok (.aload_n 0, 1) := by decide +kernel
theorem dX2_meeting_19 : decode cX2_meeting 19 = .ok (.getfield 18, 3) := by decide +kernel
theorem dX2_meeting_22 : decode cX2_meeting 22 = .ok (.iload_n 2, 1) := by decide +kernel
theorem dX2_meeting_23 : decode cX2_meeting 23 = .ok (.iaload, 1) := by decide +kernel
theorem dX2_meeting_24 : decode cX2_meeting 24 = .ok (.if_icmp .ne 9, 3) := by decide +kernel
theorem dX2_meeting_27 : decode cX2_meeting 27 = .ok (.iload_n 1, 1) := by decide +kernel
theorem dX2_meeting_28 : decode cX2_meeting 28 = .ok (.iconst 1, 1) := by decide +kernel
theorem dX2_meeting_29 : decode cX2_meeting 29 = .ok (.iload_n 2, 1) := by decide +kernel
theorem dX2_meeting_30 : decode cX2_meeting 30 = .ok (.ishl, 1) := by decide +kernel
theorem dX2_meeting_31 : decode cX2_meeting 31 = .ok (.ior, 1) := by decide +kernel
theorem dX2_meeting_32 : decode cX2_meeting 32 = .ok (.istore_n 1, 1) := by decide +kernel
theorem dX2_meeting_33 : decode cX2_meeting 33 = .ok (.iinc 2 1, 3) := by decide +kernel
theorem dX2_meeting_36 : decode cX2_meeting 36 = .ok (.goto (-32), 3) := by decide +kernel
theorem dX2_meeting_39 : decode cX2_meeting 39 = .ok (.iload_n 1, 1) := by decide +kernel
theorem dX2_meeting_40 : decode cX2_meeting 40 = .ok (.aload_n 0, 1) := by decide +kernel
theorem dX2_meeting_41 : decode cX2_meeting 41 = .ok (.getfield 40, 3) := by decide +kernel
theorem dX2_meeting_44 : decode cX2_meeting 44 = .ok (.iand, 1) := by decide +kernel
theorem dX2_meeting_45 : decode cX2_meeting 45 = .ok (.ifCond .eq 15, 3) := by decide +kernel
theorem dX2_meeting_48 : decode cX2_meeting 48 = .ok (.iload_n 1, 1) := by decide +kernel
theorem dX2_meeting_49 : decode cX2_meeting 49 = .ok (.invokestatic 105, 3) := by decide +kernel
theorem dX2_meeting_52 : decode cX2_meeting 52 = .ok (.iconst 1, 1) := by decide +kernel
theorem dX2_meeting_53 : decode cX2_meeting 53 = .ok (.if_icmp .le 7, 3) := by decide +kernel
theorem dX2_meeting_56 : decode cX2_meeting 56 = .ok (.iconst 1, 1) := by decide +kernel
theorem dX2_meeting_57 : decode cX2_meeting 57 = .ok (.goto 4, 3) := by decide +kernel
theorem dX2_meeting_60 : decode cX2_meeting 60 = .ok (.iconst 0, 1) := by decide +kernel
theorem dX2_meeting_61 : decode cX2_meeting 61 = .ok (.istore_n 2, 1) := by decide +kernel
theorem dX2_meeting_62 : decode cX2_meeting 62 = .ok (.iload_n 2, 1) := by decide +kernel
theorem dX2_meeting_63 : decode cX2_meeting 63 = .ok (.ifCond .eq 7, 3) := by decide +kernel
theorem dX2_meeting_66 : decode cX2_meeting 66 = .ok (.iload_n 1, 1) := by decide +kernel
theorem dX2_meeting_67 : decode cX2_meeting 67 = .ok (.goto 4, 3) := by decide +kernel
theorem dX2_meeting_70 : decode cX2_meeting 70 = .ok (.iconst 0, 1) := by decide +kernel
theorem dX2_meeting_71 : decode cX2_meeting 71 = .ok (.istore_n 3, 1) := by decide +kernel
theorem dX2_meeting_72 : decode cX2_meeting 72 = .ok (.iconst 1, 1) := by decide +kernel
theorem dX2_meeting_73 : decode cX2_meeting 73 = .ok (.istore 4, 2) := by decide +kernel
theorem dX2_meeting_75 : decode cX2_meeting 75 = .ok (.iload 4, 2) := by decide +kernel
theorem dX2_meeting_77 : decode cX2_meeting 77 = .ok (.aload_n 0, 1) := by decide +kernel
theorem dX2_meeting_78 : decode cX2_meeting 78 = .ok (.getfield 36, 3) := by decide +kernel
theorem dX2_meeting_81 : decode cX2_meeting 81 = .ok (.if_icmp .ge 85, 3) := by decide +kernel
theorem dX2_meeting_84 : decode cX2_meeting 84 = .ok (.iconst 1, 1) := by decide +kernel
theorem dX2_meeting_85 : decode cX2_meeting 85 = .ok (.aload_n 0, 1) := by decide +kernel
theorem dX2_meeting_86 : decode cX2_meeting 86 = .ok (.getfield 24, 3) := by decide +kernel
theorem dX2_meeting_89 : decode cX2_meeting 89 = .ok (.iload 4, 2) := by decide +kernel
theorem dX2_meeting_91 : decode cX2_meeting 91 = .ok (.iconst 1, 1) := by decide +kernel
theorem dX2_meeting_92 : decode cX2_meeting 92 = .ok (.isub, 1) := by decide +kernel
theorem dX2_meeting_93 : decode cX2_meeting 93 = .ok (.iaload, 1) := by decide +kernel
theorem dX2_meeting_94 : decode cX2_meeting 94 = .ok (.ishl, 1) := by decide +kernel
theorem dX2_meeting_95 : decode cX2_meeting 95 = .ok (.iconst 1, 1) := by decide +kernel
theorem dX2_meeting_96 : decode cX2_meeting 96 = .ok (.aload_n 0, 1) := by decide +kernel
theorem dX2_meeting_97 : decode cX2_meeting 97 = .ok (.getfield 24, 3) := by decide +kernel
theorem dX2_meeting_100 : decode cX2_meeting 100 = .ok (.iload 4, 2) := by decide +kernel
theorem dX2_meeting_102 : decode cX2_meeting 102 = .ok (.iaload, 1) := by decide +kernel
theorem dX2_meeting_103 : decode cX2_meeting 103 = .ok (.ishl, 1) := by decide +kernel
theorem dX2_meeting_104 : decode cX2_meeting 104 = .ok (.ior, 1) := by decide +kernel
theorem dX2_meeting_105 : decode cX2_meeting 105 = .ok (.istore 5, 2) := by decide +kernel
theorem dX2_meeting_107 : decode cX2_meeting 107 = .ok (.aload_n 0, 1) := by decide +kernel
theorem dX2_meeting_108 : decode cX2_meeting 108 = .ok (.getfield 30, 3) := by decide +kernel
theorem dX2_meeting_111 : decode cX2_meeting 111 = .ok (.aload_n 0, 1) := by decide +kernel
theorem dX2_meeting_112 : decode cX2_meeting 112 = .ok (.getfield 24, 3) := by decide +kernel
theorem dX2_meeting_115 : decode cX2_meeting 115 = .ok (.iload 4, 2) := by decide +kernel
theorem dX2_meeting_117 : decode cX2_meeting 117 = .ok (.iaload, 1) := by decide +kernel
theorem dX2_meeting_118 : decode cX2_meeting 118 = .ok (.iaload, 1) := by decide +kernel
theorem dX2_meeting_119 : decode cX2_meeting 119 = .ok (.istore 6, 2) := by decide +kernel
theorem dX2_meeting_121 : decode cX2_meeting 121 = .ok (.iload 6, 2) := by decide +kernel
theorem dX2_meeting_123 : decode cX2_meeting 123 = .ok (.ifCond .le 37, 3) := by decide +kernel
theorem dX2_meeting_126 : decode cX2_meeting 126 = .ok (.iload 6, 2) := by decide +kernel
theorem dX2_meeting_128 : decode cX2_meeting 128 = .ok (.aload_n 0, 1) := by decide +kernel
theorem dX2_meeting_129 : decode cX2_meeting 129 = .ok (.getfield 30, 3) := by decide +kernel
theorem dX2_meeting_132 : decode cX2_meeting 132 = .ok (.aload_n 0, 1) := by decide +kernel
theorem dX2_meeting_133 : decode cX2_meeting 133 = .ok (.getfield 24, 3) := by decide +kernel
theorem dX2_meeting_136 : decode cX2_meeting 136 = .ok (.iload 4, 2) := by decide +kernel
theorem dX2_meeting_138 : decode cX2_meeting 138 = .ok (.iconst 1, 1) := by decide +kernel
theorem dX2_meeting_139 : decode cX2_meeting 139 = .ok (.isub, 1) := by decide +kernel
theorem dX2_meeting_140 : decode cX2_meeting 140 = .ok (.iaload, 1) := by decide +kernel
theorem dX2_meeting_141 : decode cX2_meeting 141 = .ok (.iaload, 1) := by decide +kernel
theorem dX2_meeting_142 : decode cX2_meeting 142 = .ok (.if_icmp .ne 18, 3) := by decide +kernel
theorem dX2_meeting_145 : decode cX2_meeting 145 = .ok (.iload 5, 2) := by decide +kernel
theorem dX2_meeting_147 : decode cX2_meeting 147 = .ok (.aload_n 0, 1) := by decide +kernel
theorem dX2_meeting_148 : decode cX2_meeting 148 = .ok (.getfield 40, 3) := by decide +kernel
theorem dX2_meeting_151 : decode cX2_meeting 151 = .ok (.iand, 1) := by decide +kernel
theorem dX2_meeting_152 : decode cX2_meeting 152 = .ok (.ifCond .eq 8, 3) := by decide +kernel
theorem dX2_meeting_155 : decode cX2_meeting 155 = .ok (.iload_n 3, 1) := by decide +kernel
theorem dX2_meeting_156 : decode cX2_meeting 156 = .ok (.iload 5, 2) := by decide +kernel
theorem dX2_meeting_158 : decode cX2_meeting 158 = .ok (.ior, 1) := by decide +kernel
theorem dX2_meeting_159 : decode cX2_meeting 159 = .ok (.istore_n 3, 1) := by decide +kernel
theorem dX2_meeting_160 : decode cX2_meeting 160 = .ok (.iinc 4 1, 3) := by decide +kernel
theorem dX2_meeting_163 : decode cX2_meeting 163 = .ok (.goto (-88), 3) := by decide +kernel
theorem dX2_meeting_166 : decode cX2_meeting 166 = .ok (.iload_n 3, 1) := by decide +kernel
theorem dX2_meeting_167 : decode cX2_meeting 167 = .ok (.ireturn, 1) := by decide +kernel
theorem dX2_print_0 : decode cX2_print 0 = .ok (.iconst 0, 1) := by decide +kernel
theorem dX2_print_1 : decode cX2_print 1 = .ok (.istore_n 1, 1) := by decide +kernel
theorem dX2_print_2 : decode cX2_print 2 = .ok (.iconst 0, 1) := by decide +kernel
theorem dX2_print_3 : decode cX2_print 3 = .ok (.istore_n 2, 1) := by decide +kernel
theorem dX2_print_4 : decode cX2_print 4 = .ok (.iload_n 2, 1) := by decide +kernel
theorem dX2_print_5 : decode cX2_print 5 = .ok (.aload_n 0, 1) := by decide +kernel
theorem dX2_print_6 : decode cX2_print 6 = .ok (.getfield 36, 3) := by decide +kernel
theorem dX2_print_9 : decode cX2_print 9 = .ok (.if_icmp .ge 40, 3) := by decide +kernel
theorem dX2_print_12 : decode cX2_print 12 = .ok (.aload_n 0, 1) := by decide +kernel
theorem dX2_print_13 : decode cX2_print 13 = .ok (.iload_n 2, 1) := by decide +kernel
theorem dX2_print_14 : decode cX2_print 14 = .ok (.invokevirtual 92, 3) := by decide +kernel
theorem dX2_print_17 : decode cX2_print 17 = .ok (.ifCond .eq 26, 3) := by decide +kernel
theorem dX2_print_20 : decode cX2_print 20 = .ok (.aload_n 0, 1) := by decide +kernel
theorem dX2_print_21 : decode cX2_print 21 = .ok (.getfield 30, 3) := by decide +kernel
theorem dX2_print_24 : decode cX2_print 24 = .ok (.iload_n 2, 1) := by decide +kernel
theorem dX2_print_25 : decode cX2_print 25 = .ok (.iaload, 1) := by decide +kernel
theorem dX2_print_26 : decode cX2_print 26 = .ok (.aload_n 0, 1) := by decide +kernel
theorem dX2_print_27 : decode cX2_print 27 = .ok (.getfield 18, 3) := by decide +kernel
theorem dX2_print_30 : decode cX2_print 30 = .ok (.iload_n 2, 1) := by decide +kernel
theorem dX2_print_31 : decode cX2_print 31 = .ok (.iaload, 1) := by decide +kernel
theorem dX2_print_32 : decode cX2_print 32 = .ok (.if_icmp .ne 11, 3) := by decide +kernel
theorem dX2_print_35 : decode cX2_print 35 = .ok (.iinc 1 1, 3) := by decide +kernel
theorem dX2_print_38 : decode cX2_print 38 = .ok (.aload_n 0, 1) := by decide +kernel
theorem dX2_print_39 : decode cX2_print 39 = .ok (.iload_n 2, 1) := by decide +kernel
theorem dX2_print_40 : decode cX2_print 40 = .ok (.invokevirtual 110, 3) := by decide +kernel
theorem dX2_print_43 : decode cX2_print 43 = .ok (.iinc 2 1, 3) := by decide +kernel
theorem dX2_print_46 : decode cX2_print 46 = .ok (.goto (-42), 3) := by decide +kernel
theorem dX2_print_49 : decode cX2_print 49 = .ok (.iload_n 1, 1) := by decide +kernel
theorem dX2_print_50 : decode cX2_print 50 = .ok (.ireturn, 1) := by decide +kernel
theorem dX2_strike_0 : decode cX2_strike 0 = .ok (.aload_n 0, 1) := by decide +kernel
theorem dX2_strike_1 : decode cX2_strike 1 = .ok (.getfield 62, 3) := by decide +kernel
theorem dX2_strike_4 : decode cX2_strike 4 = .ok (.bipush 20, 2) := by decide +kernel
theorem dX2_strike_6 : decode cX2_strike 6 = .ok (.if_icmp .lt 4, 3) := by decide +kernel
theorem dX2_strike_9 : decode cX2_strike 9 = .ok (.return_, 1) := by decide +kernel
theorem dX2_strike_10 : decode cX2_strike 10 = .ok (.aload_n 0, 1) := by decide +kernel
theorem dX2_strike_11 : decode cX2_strike 11 = .ok (.getfield 9, 3) := by decide +kernel
theorem dX2_strike_14 : decode cX2_strike 14 = .ok (.iload_n 1, 1) := by decide +kernel
theorem dX2_strike_15 : decode cX2_strike 15 = .ok (.iaload, 1) := by decide +kernel
theorem dX2_strike_16 : decode cX2_strike 16 = .ok (.iconst 5, 1) := by decide +kernel
theorem dX2_strike_17 : decode cX2_strike 17 = .ok (.if_icmp .eq 15, 3) := by decide +kernel
theorem dX2_strike_20 : decode cX2_strike 20 = .ok (.aload_n 0, 1) := by decide +kernel
theorem dX2_strike_21 : decode cX2_strike 21 = .ok (.getfield 33, 3) := by decide +kernel
theorem dX2_strike_24 : decode cX2_strike 24 = .ok (.aload_n 0, 1) := by decide +kernel
theorem dX2_strike_25 : decode cX2_strike 25 = .ok (.getfield 62, 3) := by decide +kernel
theorem dX2_strike_28 : decode cX2_strike 28 = .ok (.iload_n 1, 1) := by decide +kernel
theorem dX2_strike_29 : decode cX2_strike 29 = .ok (.iconst 1, 1) := by decide +kernel
theorem dX2_strike_30 : decode cX2_strike 30 = .ok (.iadd, 1) := by decide +kernel
theorem dX2_strike_31 : decode cX2_strike 31 = .ok (.iastore, 1) := by decide +kernel
theorem dX2_strike_32 : decode cX2_strike 32 = .ok (.aload_n 0, 1) := by decide +kernel
theorem dX2_strike_33 : decode cX2_strike 33 = .ok (.getfield 9, 3) := by decide +kernel
theorem dX2_strike_36 : decode cX2_strike 36 = .ok (.iload_n 1, 1) := by decide +kernel
theorem dX2_strike_37 : decode cX2_strike 37 = .ok (.iaload, 1) := by decide +kernel
theorem dX2_strike_38 : decode cX2_strike 38 = .ok (.iconst 4, 1) := by decide +kernel
theorem dX2_strike_39 : decode cX2_strike 39 = .ok (.if_icmp .eq 13, 3) := by decide +kernel
theorem dX2_strike_42 : decode cX2_strike 42 = .ok (.aload_n 0, 1) := by decide +kernel
theorem dX2_strike_43 : decode cX2_strike 43 = .ok (.dup, 1) := by decide +kernel
theorem dX2_strike_44 : decode cX2_strike 44 = .ok (.getfield 62, 3) := by decide +kernel
theorem dX2_strike_47 : decode cX2_strike 47 = .ok (.iconst 1, 1) := by decide +kernel
theorem dX2_strike_48 : decode cX2_strike 48 = .ok (.iadd, 1) := by decide +kernel
theorem dX2_strike_49 : decode cX2_strike 49 = .ok (.putfield 62, 3) := by decide +kernel
theorem dX2_strike_52 : decode cX2_strike 52 = .ok (.return_, 1) := by decide +kernel
theorem dX2_columnsPrinted_0 : decode cX2_columnsPrinted 0 = .ok (.iconst 0, 1) := by decide +kernel
theorem dX2_columnsPrinted_1 : decode cX2_columnsPrinted 1 = .ok (.istore_n 1, 1) := by decide +kernel
theorem dX2_columnsPrinted_2 : decode cX2_columnsPrinted 2 = .ok (.iconst 0, 1) := by decide +kernel
theorem dX2_columnsPrinted_3 : decode cX2_columnsPrinted 3 = .ok (.istore_n 2, 1) := by decide +kernel
theorem dX2_columnsPrinted_4 : decode cX2_columnsPrinted 4 = .ok (.iload_n 2, 1) := by decide +kernel
theorem dX2_columnsPrinted_5 : decode cX2_columnsPrinted 5 = .ok (.bipush 20, 2) := by decide +kernel
theorem dX2_columnsPrinted_7 : decode cX2_columnsPrinted 7 = .ok (.if_icmp .ge 21, 3) := by decide +kernel
theorem dX2_columnsPrinted_10 : decode cX2_columnsPrinted 10 = .ok (.aload_n 0, 1) := by decide +kernel
theorem dX2_columnsPrinted_11 : decode cX2_columnsPrinted 11 = .ok (.getfield 33, 3) := by decide +kernel
theorem dX2_columnsPrinted_14 : decode cX2_columnsPrinted 14 = .ok (.iload_n 2, 1) := by decide +kernel
theorem dX2_columnsPrinted_15 : decode cX2_columnsPrinted 15 = .ok (.iaload, 1) := by decide +kernel
theorem dX2_columnsPrinted_16 : decode cX2_columnsPrinted 16 = .ok (.ifCond .eq 6, 3) := by decide +kernel
theorem dX2_columnsPrinted_19 : decode cX2_columnsPrinted 19 = .ok (.iinc 1 1, 3) := by decide +kernel
theorem dX2_columnsPrinted_22 : decode cX2_columnsPrinted 22 = .ok (.iinc 2 1, 3) := by decide +kernel
theorem dX2_columnsPrinted_25 : decode cX2_columnsPrinted 25 = .ok (.goto (-21), 3) := by decide +kernel
theorem dX2_columnsPrinted_28 : decode cX2_columnsPrinted 28 = .ok (.iload_n 1, 1) := by decide +kernel
theorem dX2_columnsPrinted_29 : decode cX2_columnsPrinted 29 = .ok (.ireturn, 1) := by decide +kernel
theorem dX3_init_0 : decode cX3_init 0 = .ok (.aload_n 0, 1) := by decide +kernel
theorem dX3_init_1 : decode cX3_init 1 = .ok (.invokespecial 3, 3) := by decide +kernel
theorem dX3_init_4 : decode cX3_init 4 = .ok (.aload_n 0, 1) := by decide +kernel
theorem dX3_init_5 : decode cX3_init 5 = .ok (.new 9, 3) := by decide +kernel
theorem dX3_init_8 : decode cX3_init 8 = .ok (.dup, 1) := by decide +kernel
theorem dX3_init_9 : decode cX3_init 9 = .ok (.invokespecial 11, 3) := by decide +kernel
theorem dX3_init_12 : decode cX3_init 12 = .ok (.putfield 12, 3) := by decide +kernel
theorem dX3_init_15 : decode cX3_init 15 = .ok (.aload_n 0, 1) := by decide +kernel
theorem dX3_init_16 : decode cX3_init 16 = .ok (.new 9, 3) := by decide +kernel
theorem dX3_init_19 : decode cX3_init 19 = .ok (.dup, 1) := by decide +kernel
theorem dX3_init_20 : decode cX3_init 20 = .ok (.invokespecial 11, 3) := by decide +kernel
theorem dX3_init_23 : decode cX3_init 23 = .ok (.putfield 18, 3) := by decide +kernel
theorem dX3_init_26 : decode cX3_init 26 = .ok (.aload_n 0, 1) := by decide +kernel
theorem dX3_init_27 : decode cX3_init 27 = .ok (.bipush 12, 2) := by decide +kernel
theorem dX3_init_29 : decode cX3_init 29 = .ok (.newarray .int, 2) := by decide +kernel
theorem dX3_init_31 : decode cX3_init 31 = .ok (.putfield 21, 3) := by decide +kernel
theorem dX3_init_34 : decode cX3_init 34 = .ok (.return_, 1) := by decide +kernel
theorem dX3_ticksOn_0 : decode cX3_ticksOn 0 = .ok (.aload_n 0, 1) := by decide +kernel
theorem dX3_ticksOn_1 : decode cX3_ticksOn 1 = .ok (.getfield 12, 3) := by decide +kernel
theorem dX3_ticksOn_4 : decode cX3_ticksOn 4 = .ok (.aload_n 1, 1) := by decide +kernel
theorem dX3_ticksOn_5 : decode cX3_ticksOn 5 = .ok (.invokevirtual 25, 3) := by decide +kernel
theorem dX3_ticksOn_8 : decode cX3_ticksOn 8 = .ok (.aload_n 0, 1) := by decide +kernel
theorem dX3_ticksOn_9 : decode cX3_ticksOn 9 = .ok (.getfield 12, 3) := by decide +kernel
theorem dX3_ticksOn_12 : decode cX3_ticksOn 12 = .ok (.iload_n 2, 1) := by decide +kernel
theorem dX3_ticksOn_13 : decode cX3_ticksOn 13 = .ok (.invokevirtual 29, 3) := by decide +kernel
theorem dX3_ticksOn_16 : decode cX3_ticksOn 16 = .ok (.aload_n 0, 1) := by decide +kernel
theorem dX3_ticksOn_17 : decode cX3_ticksOn 17 = .ok (.getfield 12, 3) := by decide +kernel
theorem dX3_ticksOn_20 : decode cX3_ticksOn 20 = .ok (.areturn, 1) := by decide +kernel
theorem dX3_ticksToJam_0 : decode cX3_ticksToJam 0 = .ok (.aload_n 0, 1) := by decide +kernel
theorem dX3_ticksToJam_1 : decode cX3_ticksToJam 1 = .ok (.getfield 12, 3) := by decide +kernel
theorem dX3_ticksToJam_4 : decode cX3_ticksToJam 4 = .ok (.aload_n 1, 1) := by decide +kernel
theorem dX3_ticksToJam_5 : decode cX3_ticksToJam 5 = .ok (.invokevirtual 25, 3) := by decide +kernel
theorem dX3_ticksToJam_8 : decode cX3_ticksToJam 8 = .ok (.iconst 0, 1) := by decide +kernel
theorem dX3_ticksToJam_9 : decode cX3_ticksToJam 9 = .ok (.istore_n 2, 1) := by decide +kernel
theorem dX3_ticksToJam_10 : decode cX3_ticksToJam 10 = .ok (.iload_n 2, 1) := by decide +kernel
theorem dX3_ticksToJam_11 : decode cX3_ticksToJam 11 = .ok (.bipush 60, 2) := by decide +kernel
theorem dX3_ticksToJam_13 : decode cX3_ticksToJam 13 = .ok (.if_icmp .gt 29, 3) := by decide +kernel
theorem dX3_ticksToJam_16 : decode cX3_ticksToJam 16 = .ok (.aload_n 0, 1) := by decide +kernel
theorem dX3_ticksToJam_17 : decode cX3_ticksToJam 17 = .ok (.getfield 12, 3) := by decide +kernel
theorem dX3_ticksToJam_20 : decode cX3_ticksToJam 20 = .ok (.getfield 33, 3) := by decide +kernel
theorem dX3_ticksToJam_23 : decode cX3_ticksToJam 23 = .ok (.ifCond .eq 5, 3) := by decide +kernel
theorem dX3_ticksToJam_26 : decode cX3_ticksToJam 26 = .ok (.iload_n 2, 1) := by decide +kernel
theorem dX3_ticksToJam_27 : decode cX3_ticksToJam 27 = .ok (.ireturn, 1) := by decide +kernel
theorem dX3_ticksToJam_28 : decode cX3_ticksToJam 28 = .ok (.aload_n 0, 1) := by decide +kernel
theorem dX3_ticksToJam_29 : decode cX3_ticksToJam 29 = .ok (.getfield 12, 3) := by decide +kernel
theorem dX3_ticksToJam_32 : decode cX3_ticksToJam 32 = .ok (.invokevirtual 37, 3) := by decide +kernel
theorem dX3_ticksToJam_35 : decode cX3_ticksToJam 35 = .ok (.pop, 1) := by decide +kernel
theorem dX3_ticksToJam_36 : decode cX3_ticksToJam 36 = .ok (.iinc 2 1, 3) := by decide +kernel
theorem dX3_ticksToJam_39 : decode cX3_ticksToJam 39 = .ok (.goto (-29), 3) := by decide +kernel
theorem dX3_ticksToJam_42 : decode cX3_ticksToJam 42 = .ok (.ldc 41, 2) := by decide +kernel
theorem dX3_ticksToJam_44 : decode cX3_ticksToJam 44 = .ok (.ireturn, 1) := by decide +kernel
theorem dX3_leastWait_0 : decode cX3_leastWait 0 = .ok (.aload_n 0, 1) := by decide +kernel
theorem dX3_leastWait_1 : decode cX3_leastWait 1 = .ok (.getfield 12, 3) := by decide +kernel
theorem dX3_leastWait_4 : decode cX3_leastWait 4 = .ok (.aload_n 1, 1) := by decide +kernel
theorem dX3_leastWait_5 : decode cX3_leastWait 5 = .ok (.invokevirtual 25, 3) := by decide +kernel
theorem dX3_leastWait_8 : decode cX3_leastWait 8 = .ok (.iconst 0, 1) := by decide +kernel
theorem dX3_leastWait_9 : decode cX3_leastWait 9 = .ok (.istore_n 3, 1) := by decide +kernel
theorem dX3_leastWait_10 : decode cX3_leastWait 10 = .ok (.iload_n 3, 1) := by decide +kernel
theorem dX3_leastWait_11 : decode cX3_leastWait 11 = .ok (.bipush 20, 2) := by decide +kernel
theorem dX3_leastWait_13 : decode cX3_leastWait 13 = .ok (.if_icmp .gt 38, 3) := by decide +kernel
theorem dX3_leastWait_16 : decode cX3_leastWait 16 = .ok (.aload_n 0, 1) := by decide +kernel
theorem dX3_leastWait_17 : decode cX3_leastWait 17 = .ok (.getfield 12, 3) := by decide +kernel
theorem dX3_leastWait_20 : decode cX3_leastWait 20 = .ok (.iload_n 2, 1) := by decide +kernel
theorem dX3_leastWait_21 : decode cX3_leastWait 21 = .ok (.invokevirtual 42, 3) := by decide +kernel
theorem dX3_leastWait_24 : decode cX3_leastWait 24 = .ok (.ifCond .eq 13, 3) := by decide +kernel
theorem dX3_leastWait_27 : decode cX3_leastWait 27 = .ok (.aload_n 0, 1) := by decide +kernel
theorem dX3_leastWait_28 : decode cX3_leastWait 28 = .ok (.iload_n 2, 1) := by decide +kernel
theorem dX3_leastWait_29 : decode cX3_leastWait 29 = .ok (.invokevirtual 46, 3) := by decide +kernel
theorem dX3_leastWait_32 : decode cX3_leastWait 32 = .ok (.ifCond .eq 5, 3) := by decide +kernel
theorem dX3_leastWait_35 : decode cX3_leastWait 35 = .ok (.iload_n 3, 1) := by decide +kernel
theorem dX3_leastWait_36 : decode cX3_leastWait 36 = .ok (.ireturn, 1) := by decide +kernel
theorem dX3_leastWait_37 : decode cX3_leastWait 37 = .ok (.aload_n 0, 1) := by decide +kernel
theorem dX3_leastWait_38 : decode cX3_leastWait 38 = .ok (.getfield 12, 3) := by decide +kernel
theorem dX3_leastWait_41 : decode cX3_leastWait 41 = .ok (.invokevirtual 37, 3) := by decide +kernel
theorem dX3_leastWait_44 : decode cX3_leastWait 44 = .ok (.pop, 1) := by decide +kernel
theorem dX3_leastWait_45 : decode cX3_leastWait 45 = .ok (.iinc 3 1, 3) := by decide +kernel
theorem dX3_leastWait_48 : decode cX3_leastWait 48 = .ok (.goto (-38), 3) := by decide +kernel
theorem dX3_leastWait_51 : decode cX3_leastWait 51 = .ok (.ldc 41, 2) := by decide +kernel
theorem dX3_leastWait_53 : decode cX3_leastWait 53 = .ok (.ireturn, 1) := by decide +kernel
theorem dX3_staysClear_0 : decode cX3_staysClear 0 = .ok (.aload_n 0, 1) := by decide +kernel
theorem dX3_staysClear_1 : decode cX3_staysClear 1 = .ok (.getfield 18, 3) := by decide +kernel
theorem dX3_staysClear_4 : decode cX3_staysClear 4 = .ok (.aload_n 0, 1) := by decide +kernel
theorem dX3_staysClear_5 : decode cX3_staysClear 5 = .ok (.getfield 12, 3) := by decide +kernel
theorem dX3_staysClear_8 : decode cX3_staysClear 8 = .ok (.invokevirtual 25, 3) := by decide +kernel
theorem dX3_staysClear_11 : decode cX3_staysClear 11 = .ok (.aload_n 0, 1) := by decide +kernel
theorem dX3_staysClear_12 : decode cX3_staysClear 12 = .ok (.getfield 18, 3) := by decide +kernel
theorem dX3_staysClear_15 : decode cX3_staysClear 15 = .ok (.iload_n 1, 1) := by decide +kernel
theorem dX3_staysClear_16 : decode cX3_staysClear 16 = .ok (.invokevirtual 49, 3) := by decide +kernel
theorem dX3_staysClear_19 : decode cX3_staysClear 19 = .ok (.aload_n 0, 1) := by decide +kernel
theorem dX3_staysClear_20 : decode cX3_staysClear 20 = .ok (.getfield 18, 3) := by decide +kernel
theorem dX3_staysClear_23 : decode cX3_staysClear 23 = .ok (.bipush 12, 2) := by decide +kernel
theorem dX3_staysClear_25 : decode cX3_staysClear 25 = .ok (.invokevirtual 29, 3) := by decide +kernel
theorem dX3_staysClear_28 : decode cX3_staysClear 28 = .ok (.aload_n 0, 1) := by decide +kernel
theorem dX3_staysClear_29 : decode cX3_staysClear 29 = .ok (.getfield 18, 3) := by decide +kernel
theorem dX3_staysClear_32 : decode cX3_staysClear 32 = .ok (.getfield 33, 3) := by decide +kernel
theorem dX3_staysClear_35 : decode cX3_staysClear 35 = .ok (.aload_n 0, 1) := by decide +kernel
theorem dX3_staysClear_36 : decode cX3_staysClear 36 = .ok (.getfield 12, 3) := by decide +kernel
theorem dX3_staysClear_39 : decode cX3_staysClear 39 = .ok (.getfield 33, 3) := by decide +kernel
theorem dX3_staysClear_42 : decode cX3_staysClear 42 = .ok (.if_icmp .ne 7, 3) := by decide +kernel
theorem dX3_staysClear_45 : decode cX3_staysClear 45 = .ok (.iconst 1, 1) := by decide +kernel
theorem dX3_staysClear_46 : decode cX3_staysClear 46 = .ok (.goto 4, 3) := by decide +kernel
theorem dX3_staysClear_49 : decode cX3_staysClear 49 = .ok (.iconst 0, 1) := by decide +kernel
theorem dX3_staysClear_50 : decode cX3_staysClear 50 = .ok (.ireturn, 1) := by decide +kernel
theorem dX3_hear_0 : decode cX3_hear 0 = .ok (.aload_n 0, 1) := by decide +kernel
theorem dX3_hear_1 : decode cX3_hear 1 = .ok (.iconst 0, 1) := by decide +kernel
theorem dX3_hear_2 : decode cX3_hear 2 = .ok (.putfield 52, 3) := by decide +kernel
theorem dX3_hear_5 : decode cX3_hear 5 = .ok (.iconst 0, 1) := by decide +kernel
theorem dX3_hear_6 : decode cX3_hear 6 = .ok (.istore 4, 2) := by decide +kernel
theorem dX3_hear_8 : decode cX3_hear 8 = .ok (.iload 4, 2) := by decide +kernel
theorem dX3_hear_10 : decode cX3_hear 10 = .ok (.iload_n 3, 1) := by decide +kernel
theorem dX3_hear_11 : decode cX3_hear 11 = .ok (.if_icmp .ge 52, 3) := by decide +kernel
theorem dX3_hear_14 : decode cX3_hear 14 = .ok (.iload 4, 2) := by decide +kernel
theorem dX3_hear_16 : decode cX3_hear 16 = .ok (.bipush 12, 2) := by decide +kernel
theorem dX3_hear_18 : decode cX3_hear 18 = .ok (.if_icmp .ge 45, 3) := by decide +kernel
theorem dX3_hear_21 : decode cX3_hear 21 = .ok (.aload_n 1, 1) := by decide +kernel
theorem dX3_hear_22 : decode cX3_hear 22 = .ok (.iload_n 2, 1) := by decide +kernel
theorem dX3_hear_23 : decode cX3_hear 23 = .ok (.iload 4, 2) := by decide +kernel
theorem dX3_hear_25 : decode cX3_hear 25 = .ok (.iadd, 1) := by decide +kernel
theorem dX3_hear_26 : decode cX3_hear 26 = .ok (.iconst 1, 1) := by decide +kernel
theorem dX3_hear_27 : decode cX3_hear 27 = .ok (.invokevirtual 55, 3) := by decide +kernel
theorem dX3_hear_30 : decode cX3_hear 30 = .ok (.ifCond .eq 33, 3) := by decide +kernel
theorem dX3_hear_33 : decode cX3_hear 33 = .ok (.aload_n 0, 1) := by decide +kernel
theorem dX3_hear_34 : decode cX3_hear 34 = .ok (.getfield 21, 3) := by decide +kernel
theorem dX3_hear_37 : decode cX3_hear 37 = .ok (.iload 4, 2) := by decide +kernel
theorem dX3_hear_39 : decode cX3_hear 39 = .ok (.aload_n 1, 1) := by decide +kernel
theorem dX3_hear_40 : decode cX3_hear 40 = .ok (.getfield 61, 3) := by decide +kernel
theorem dX3_hear_43 : decode cX3_hear 43 = .ok (.iload_n 2, 1) := by decide +kernel
theorem dX3_hear_44 : decode cX3_hear 44 = .ok (.iload 4, 2) := by decide +kernel
theorem dX3_hear_46 : decode cX3_hear 46 = .ok (.iadd, 1) := by decide +kernel
theorem dX3_hear_47 : decode cX3_hear 47 = .ok (.iaload, 1) := by decide +kernel
theorem dX3_hear_48 : decode cX3_hear 48 = .ok (.iastore, 1) := by decide +kernel
theorem dX3_hear_49 : decode cX3_hear 49 = .ok (.aload_n 0, 1) := by decide +kernel
theorem dX3_hear_50 : decode cX3_hear 50 = .ok (.iload 4, 2) := by decide +kernel
theorem dX3_hear_52 : decode cX3_hear 52 = .ok (.iconst 1, 1) := by decide +kernel
theorem dX3_hear_53 : decode cX3_hear 53 = .ok (.iadd, 1) := by decide +kernel
theorem dX3_hear_54 : decode cX3_hear 54 = .ok (.putfield 52, 3) := by decide +kernel
theorem dX3_hear_57 : decode cX3_hear 57 = .ok (.iinc 4 1, 3) := by decide +kernel
theorem dX3_hear_60 : decode cX3_hear 60 = .ok (.goto (-52), 3) := by decide +kernel
theorem dX3_hear_63 : decode cX3_hear 63 = .ok (.return_, 1) := by decide +kernel
theorem dX3_paceAsItIs_0 : decode cX3_paceAsItIs 0 = .ok (.aload_n 0, 1) := by decide +kernel
theorem dX3_paceAsItIs_1 : decode cX3_paceAsItIs 1 = .ok (.getfield 12, 3) := by decide +kernel
theorem dX3_paceAsItIs_4 : decode cX3_paceAsItIs 4 = .ok (.aload_n 1, 1) := by decide +kernel
theorem dX3_paceAsItIs_5 : decode cX3_paceAsItIs 5 = .ok (.invokevirtual 25, 3) := by decide +kernel
theorem dX3_paceAsItIs_8 : decode cX3_paceAsItIs 8 = .ok (.aload_n 0, 1) := by decide +kernel
theorem dX3_paceAsItIs_9 : decode cX3_paceAsItIs 9 = .ok (.bipush 12, 2) := by decide +kernel
theorem dX3_paceAsItIs_11 : decode cX3_paceAsItIs 11 = .ok (.invokevirtual 64, 3) := by decide +kernel
theorem dX3_paceAsItIs_14 : decode cX3_paceAsItIs 14 = .ok (.ireturn, 1) := by decide +kernel
theorem dX3_bestSwap_0 : decode cX3_bestSwap 0 = .ok (.ldc 41, 2) := by decide +kernel
theorem dX3_bestSwap_2 : decode cX3_bestSwap 2 = .ok (.istore_n 2, 1) := by decide +kernel
theorem dX3_bestSwap_3 : decode cX3_bestSwap 3 = .ok (.aload_n 0, 1) := by decide +kernel
theorem dX3_bestSwap_4 : decode cX3_bestSwap 4 = .ok (.getfield 12, 3) := by decide +kernel
theorem dX3_bestSwap_7 : decode cX3_bestSwap 7 = .ok (.aload_n 1, 1) := by decide +kernel
theorem dX3_bestSwap_8 : decode cX3_bestSwap 8 = .ok (.invokevirtual 25, 3) := by decide +kernel
theorem dX3_bestSwap_11 : decode cX3_bestSwap 11 = .ok (.aload_n 0, 1) := by decide +kernel
theorem dX3_bestSwap_12 : decode cX3_bestSwap 12 = .ok (.bipush 12, 2) := by decide +kernel
theorem dX3_bestSwap_14 : decode cX3_bestSwap 14 = .ok (.invokevirtual 64, 3) := by decide +kernel
theorem dX3_bestSwap_17 : decode cX3_bestSwap 17 = .ok (.istore_n 3, 1) := by decide +kernel
theorem dX3_bestSwap_18 : decode cX3_bestSwap 18 = .ok (.aload_n 0, 1) := by decide +kernel
theorem dX3_bestSwap_19 : decode cX3_bestSwap 19 = .ok (.iload_n 3, 1) := by decide +kernel
theorem dX3_bestSwap_20 : decode cX3_bestSwap 20 = .ok (.ldc 41, 2) := by decide +kernel
theorem dX3_bestSwap_22 : decode cX3_bestSwap 22 = .ok (.if_icmp .ne 8, 3) := by decide +kernel
theorem dX3_bestSwap_25 : decode cX3_bestSwap 25 = .ok (.bipush 13, 2) := by decide +kernel
theorem dX3_bestSwap_27 : decode cX3_bestSwap 27 = .ok (.goto 4, 3) := by decide +kernel
theorem dX3_bestSwap_30 : decode cX3_bestSwap 30 = .ok (.iload_n 3, 1) := by decide +kernel
theorem dX3_bestSwap_31 : decode cX3_bestSwap 31 = .ok (.putfield 68, 3) := by decide +kernel
theorem dX3_bestSwap_34 : decode cX3_bestSwap 34 = .ok (.iconst 0, 1) := by decide +kernel
theorem dX3_bestSwap_35 : decode cX3_bestSwap 35 = .ok (.istore 4, 2) := by decide +kernel
theorem dX3_bestSwap_37 : decode cX3_bestSwap 37 = .ok (.iload 4, 2) := by decide +kernel
theorem dX3_bestSwap_39 : decode cX3_bestSwap 39 = .ok (.aload_n 1, 1) := by decide +kernel
theorem dX3_bestSwap_40 : decode cX3_bestSwap 40 = .ok (.getfield 71, 3) := by decide +kernel
theorem dX3_bestSwap_43 : decode cX3_bestSwap 43 = .ok (.if_icmp .ge 83, 3) := by decide +kernel
theorem dX3_bestSwap_46 : decode cX3_bestSwap 46 = .ok (.iload 4, 2) := by decide +kernel
theorem dX3_bestSwap_48 : decode cX3_bestSwap 48 = .ok (.iconst 1, 1) := by decide +kernel
theorem dX3_bestSwap_49 : decode cX3_bestSwap 49 = .ok (.iadd, 1) := by decide +kernel
theorem dX3_bestSwap_50 : decode cX3_bestSwap 50 = .ok (.istore 5, 2) := by decide +kernel
theorem dX3_bestSwap_52 : decode cX3_bestSwap 52 = .ok (.iload 5, 2) := by decide +kernel
theorem dX3_bestSwap_54 : decode cX3_bestSwap 54 = .ok (.aload_n 1, 1) := by decide +kernel
theorem dX3_bestSwap_55 : decode cX3_bestSwap 55 = .ok (.getfield 71, 3) := by decide +kernel
theorem dX3_bestSwap_58 : decode cX3_bestSwap 58 = .ok (.if_icmp .ge 62, 3) := by decide +kernel
theorem dX3_bestSwap_61 : decode cX3_bestSwap 61 = .ok (.aload_n 0, 1) := by decide +kernel
theorem dX3_bestSwap_62 : decode cX3_bestSwap 62 = .ok (.getfield 12, 3) := by decide +kernel
theorem dX3_bestSwap_65 : decode cX3_bestSwap 65 = .ok (.aload_n 1, 1) := by decide +kernel
theorem dX3_bestSwap_66 : decode cX3_bestSwap 66 = .ok (.invokevirtual 25, 3) := by decide +kernel
theorem dX3_bestSwap_69 : decode cX3_bestSwap 69 = .ok (.aload_n 0, 1) := by decide +kernel
theorem dX3_bestSwap_70 : decode cX3_bestSwap 70 = .ok (.getfield 12, 3) := by decide +kernel
theorem dX3_bestSwap_73 : decode cX3_bestSwap 73 = .ok (.iload 4, 2) := by decide +kernel
theorem dX3_bestSwap_75 : decode cX3_bestSwap 75 = .ok (.iload 5, 2) := by decide +kernel
theorem dX3_bestSwap_77 : decode cX3_bestSwap 77 = .ok (.invokevirtual 74, 3) := by decide +kernel
theorem dX3_bestSwap_80 : decode cX3_bestSwap 80 = .ok (.aload_n 0, 1) := by decide +kernel
theorem dX3_bestSwap_81 : decode cX3_bestSwap 81 = .ok (.aload_n 0, 1) := by decide +kernel
theorem dX3_bestSwap_82 : decode cX3_bestSwap 82 = .ok (.getfield 68, 3) := by decide +kernel
theorem dX3_bestSwap_85 : decode cX3_bestSwap 85 = .ok (.iconst 1, 1) := by decide +kernel
theorem dX3_bestSwap_86 : decode cX3_bestSwap 86 = .ok (.isub, 1) := by decide +kernel
theorem dX3_bestSwap_87 : decode cX3_bestSwap 87 = .ok (.invokevirtual 64, 3) := by decide +kernel
theorem dX3_bestSwap_90 : decode cX3_bestSwap 90 = .ok (.istore 6, 2) := by decide +kernel
theorem dX3_bestSwap_92 : decode cX3_bestSwap 92 = .ok (.iload 6, 2) := by decide +kernel
theorem dX3_bestSwap_94 : decode cX3_bestSwap 94 = .ok (.ldc 41, 2) := by decide +kernel
theorem dX3_bestSwap_96 : decode cX3_bestSwap 96 = .ok (.if_icmp .eq 18, 3) := by decide +kernel
theorem dX3_bestSwap_99 : decode cX3_bestSwap 99 = .ok (.aload_n 0, 1) := by decide +kernel
theorem dX3_bestSwap_100 : decode cX3_bestSwap 100 = .ok (.iload 6, 2) := by decide +kernel
theorem dX3_bestSwap_102 : decode cX3_bestSwap 102 = .ok (.putfield 68, 3) := by decide +kernel
theorem dX3_bestSwap_105 : decode cX3_bestSwap 105 = .ok (.bipush 10, 2) := by decide +kernel
theorem dX3_bestSwap_107 : decode cX3_bestSwap 107 = .ok (.iload 4, 2) := by decide +kernel
theorem dX3_bestSwap_109 : decode cX3_bestSwap 109 = .ok (.imul, 1) := by decide +kernel
theorem dX3_bestSwap_110 : decode cX3_bestSwap 110 = .ok (.iload 5, 2) := by decide +kernel
theorem dX3_bestSwap_112 : decode cX3_bestSwap 112 = .ok (.iadd, 1) := by decide +kernel
theorem dX3_bestSwap_113 : decode cX3_bestSwap 113 = .ok (.istore_n 2, 1) := by decide +kernel
theorem dX3_bestSwap_114 : decode cX3_bestSwap 114 = .ok (.iinc 5 1, 3) := by decide +kernel
theorem dX3_bestSwap_117 : decode cX3_bestSwap 117 = .ok (.goto (-65), 3) := by decide +kernel
theorem dX3_bestSwap_120 : decode cX3_bestSwap 120 = .ok (.iinc 4 1, 3) := by decide +kernel
theorem dX3_bestSwap_123 : decode cX3_bestSwap 123 = .ok (.goto (-86), 3) := by decide +kernel
theorem dX3_bestSwap_126 : decode cX3_bestSwap 126 = .ok (.iload_n 2, 1) := by decide +kernel
theorem dX3_bestSwap_127 : decode cX3_bestSwap 127 = .ok (.ireturn, 1) := by decide +kernel
theorem dX3_leastPace_0 : decode cX3_leastPace 0 = .ok (.iconst 1, 1) := by decide +kernel
theorem dX3_leastPace_1 : decode cX3_leastPace 1 = .ok (.istore_n 2, 1) := by decide +kernel
theorem dX3_leastPace_2 : decode cX3_leastPace 2 = .ok (.iload_n 2, 1) := by decide +kernel
theorem dX3_leastPace_3 : decode cX3_leastPace 3 = .ok (.iload_n 1, 1) := by decide +kernel
theorem dX3_leastPace_4 : decode cX3_leastPace 4 = .ok (.if_icmp .gt 19, 3) := by decide +kernel
theorem dX3_leastPace_7 : decode cX3_leastPace 7 = .ok (.aload_n 0, 1) := by decide +kernel
theorem dX3_leastPace_8 : decode cX3_leastPace 8 = .ok (.iload_n 2, 1) := by decide +kernel
theorem dX3_leastPace_9 : decode cX3_leastPace 9 = .ok (.invokevirtual 78, 3) := by decide +kernel
theorem dX3_leastPace_12 : decode cX3_leastPace 12 = .ok (.ifCond .eq 5, 3) := by decide +kernel
theorem dX3_leastPace_15 : decode cX3_leastPace 15 = .ok (.iload_n 2, 1) := by decide +kernel
theorem dX3_leastPace_16 : decode cX3_leastPace 16 = .ok (.ireturn, 1) := by decide +kernel
theorem dX3_leastPace_17 : decode cX3_leastPace 17 = .ok (.iinc 2 1, 3) := by decide +kernel
theorem dX3_leastPace_20 : decode cX3_leastPace 20 = .ok (.goto (-18), 3) := by decide +kernel
theorem dX3_leastPace_23 : decode cX3_leastPace 23 = .ok (.ldc 41, 2) := by decide +kernel
theorem dX3_leastPace_25 : decode cX3_leastPace 25 = .ok (.ireturn, 1) := by decide +kernel
theorem dX3_goesAt_0 : decode cX3_goesAt 0 = .ok (.aload_n 0, 1) := by decide +kernel
theorem dX3_goesAt_1 : decode cX3_goesAt 1 = .ok (.getfield 18, 3) := by decide +kernel
theorem dX3_goesAt_4 : decode cX3_goesAt 4 = .ok (.aload_n 0, 1) := by decide +kernel
theorem dX3_goesAt_5 : decode cX3_goesAt 5 = .ok (.getfield 12, 3) := by decide +kernel
theorem dX3_goesAt_8 : decode cX3_goesAt 8 = .ok (.invokevirtual 25, 3) := by decide +kernel
theorem dX3_goesAt_11 : decode cX3_goesAt 11 = .ok (.iconst 0, 1) := by decide +kernel
theorem dX3_goesAt_12 : decode cX3_goesAt 12 = .ok (.istore_n 2, 1) := by decide +kernel
theorem dX3_goesAt_13 : decode cX3_goesAt 13 = .ok (.iload_n 2, 1) := by decide +kernel
theorem dX3_goesAt_14 : decode cX3_goesAt 14 = .ok (.aload_n 0, 1) := by decide +kernel
theorem dX3_goesAt_15 : decode cX3_goesAt 15 = .ok (.getfield 52, 3) := by decide +kernel
theorem dX3_goesAt_18 : decode cX3_goesAt 18 = .ok (.if_icmp .ge 69, 3) := by decide +kernel
theorem dX3_goesAt_21 : decode cX3_goesAt 21 = .ok (.iload_n 2, 1) := by decide +kernel
theorem dX3_goesAt_22 : decode cX3_goesAt 22 = .ok (.ifCond .le 11, 3) := by decide +kernel
theorem dX3_goesAt_25 : decode cX3_goesAt 25 = .ok (.aload_n 0, 1) := by decide +kernel
theorem dX3_goesAt_26 : decode cX3_goesAt 26 = .ok (.getfield 18, 3) := by decide +kernel
theorem dX3_goesAt_29 : decode cX3_goesAt 29 = .ok (.iload_n 1, 1) := by decide +kernel
theorem dX3_goesAt_30 : decode cX3_goesAt 30 = .ok (.invokevirtual 29, 3) := by decide +kernel
theorem dX3_goesAt_33 : decode cX3_goesAt 33 = .ok (.aload_n 0, 1) := by decide +kernel
theorem dX3_goesAt_34 : decode cX3_goesAt 34 = .ok (.getfield 18, 3) := by decide +kernel
theorem dX3_goesAt_37 : decode cX3_goesAt 37 = .ok (.getfield 33, 3) := by decide +kernel
theorem dX3_goesAt_40 : decode cX3_goesAt 40 = .ok (.aload_n 0, 1) := by decide +kernel
theorem dX3_goesAt_41 : decode cX3_goesAt 41 = .ok (.getfield 12, 3) := by decide +kernel
theorem dX3_goesAt_44 : decode cX3_goesAt 44 = .ok (.getfield 33, 3) := by decide +kernel
theorem dX3_goesAt_47 : decode cX3_goesAt 47 = .ok (.if_icmp .ne 19, 3) := by decide +kernel
theorem dX3_goesAt_50 : decode cX3_goesAt 50 = .ok (.aload_n 0, 1) := by decide +kernel
theorem dX3_goesAt_51 : decode cX3_goesAt 51 = .ok (.getfield 18, 3) := by decide +kernel
theorem dX3_goesAt_54 : decode cX3_goesAt 54 = .ok (.aload_n 0, 1) := by decide +kernel
theorem dX3_goesAt_55 : decode cX3_goesAt 55 = .ok (.getfield 21, 3) := by decide +kernel
theorem dX3_goesAt_58 : decode cX3_goesAt 58 = .ok (.iload_n 2, 1) := by decide +kernel
theorem dX3_goesAt_59 : decode cX3_goesAt 59 = .ok (.iaload, 1) := by decide +kernel
theorem dX3_goesAt_60 : decode cX3_goesAt 60 = .ok (.invokevirtual 42, 3) := by decide +kernel
theorem dX3_goesAt_63 : decode cX3_goesAt 63 = .ok (.ifCond .ne 5, 3) := by decide +kernel
theorem dX3_goesAt_66 : decode cX3_goesAt 66 = .ok (.iconst 0, 1) := by decide +kernel
theorem dX3_goesAt_67 : decode cX3_goesAt 67 = .ok (.ireturn, 1) := by decide +kernel
theorem dX3_goesAt_68 : decode cX3_goesAt 68 = .ok (.aload_n 0, 1) := by decide +kernel
theorem dX3_goesAt_69 : decode cX3_goesAt 69 = .ok (.getfield 18, 3) := by decide +kernel
theorem dX3_goesAt_72 : decode cX3_goesAt 72 = .ok (.aload_n 0, 1) := by decide +kernel
theorem dX3_goesAt_73 : decode cX3_goesAt 73 = .ok (.getfield 21, 3) := by decide +kernel
theorem dX3_goesAt_76 : decode cX3_goesAt 76 = .ok (.iload_n 2, 1) := by decide +kernel
theorem dX3_goesAt_77 : decode cX3_goesAt 77 = .ok (.iaload, 1) := by decide +kernel
theorem dX3_goesAt_78 : decode cX3_goesAt 78 = .ok (.invokevirtual 49, 3) := by decide +kernel
theorem dX3_goesAt_81 : decode cX3_goesAt 81 = .ok (.iinc 2 1, 3) := by decide +kernel
theorem dX3_goesAt_84 : decode cX3_goesAt 84 = .ok (.goto (-71), 3) := by decide +kernel
theorem dX3_goesAt_87 : decode cX3_goesAt 87 = .ok (.aload_n 0, 1) := by decide +kernel
theorem dX3_goesAt_88 : decode cX3_goesAt 88 = .ok (.getfield 18, 3) := by decide +kernel
theorem dX3_goesAt_91 : decode cX3_goesAt 91 = .ok (.bipush 12, 2) := by decide +kernel
theorem dX3_goesAt_93 : decode cX3_goesAt 93 = .ok (.invokevirtual 29, 3) := by decide +kernel
theorem dX3_goesAt_96 : decode cX3_goesAt 96 = .ok (.aload_n 0, 1) := by decide +kernel
theorem dX3_goesAt_97 : decode cX3_goesAt 97 = .ok (.getfield 18, 3) := by decide +kernel
theorem dX3_goesAt_100 : decode cX3_goesAt 100 = .ok (.getfield 33, 3) := by decide +kernel
theorem dX3_goesAt_103 : decode cX3_goesAt 103 = .ok (.aload_n 0, 1) := by decide +kernel
theorem dX3_goesAt_104 : decode cX3_goesAt 104 = .ok (.getfield 12, 3) := by decide +kernel
theorem dX3_goesAt_107 : decode cX3_goesAt 107 = .ok (.getfield 33, 3) := by decide +kernel
theorem dX3_goesAt_110 : decode cX3_goesAt 110 = .ok (.if_icmp .ne 7, 3) := by decide +kernel
theorem dX3_goesAt_113 : decode cX3_goesAt 113 = .ok (.iconst 1, 1) := by decide +kernel
theorem dX3_goesAt_114 : decode cX3_goesAt 114 = .ok (.goto 4, 3) := by decide +kernel
theorem dX3_goesAt_117 : decode cX3_goesAt 117 = .ok (.iconst 0, 1) := by decide +kernel
theorem dX3_goesAt_118 : decode cX3_goesAt 118 = .ok (.ireturn, 1) := by decide +kernel
theorem dX3_fitting_0 : decode cX3_fitting 0 = .ok (.iload_n 3, 1) := by decide +kernel
theorem dX3_fitting_1 : decode cX3_fitting 1 = .ok (.iconst 2, 1) := by decide +kernel
theorem dX3_fitting_2 : decode cX3_fitting 2 = .ok (.if_icmp .ge 7, 3) := by decide +kernel
theorem dX3_fitting_5 : decode cX3_fitting 5 = .ok (.iconst 1, 1) := by decide +kernel
theorem dX3_fitting_6 : decode cX3_fitting 6 = .ok (.goto 4, 3) := by decide +kernel
theorem dX3_fitting_9 : decode cX3_fitting 9 = .ok (.iconst 0, 1) := by decide +kernel
theorem dX3_fitting_10 : decode cX3_fitting 10 = .ok (.istore 4, 2) := by decide +kernel
theorem dX3_fitting_12 : decode cX3_fitting 12 = .ok (.iload_n 3, 1) := by decide +kernel
theorem dX3_fitting_13 : decode cX3_fitting 13 = .ok (.aload_n 1, 1) := by decide +kernel
theorem dX3_fitting_14 : decode cX3_fitting 14 = .ok (.getfield 71, 3) := by decide +kernel
theorem dX3_fitting_17 : decode cX3_fitting 17 = .ok (.invokestatic 81, 3) := by decide +kernel
theorem dX3_fitting_20 : decode cX3_fitting 20 = .ok (.istore 5, 2) := by decide +kernel
theorem dX3_fitting_22 : decode cX3_fitting 22 = .ok (.iconst 0, 1) := by decide +kernel
theorem dX3_fitting_23 : decode cX3_fitting 23 = .ok (.istore 6, 2) := by decide +kernel
theorem dX3_fitting_25 : decode cX3_fitting 25 = .ok (.iload 4, 2) := by decide +kernel
theorem dX3_fitting_27 : decode cX3_fitting 27 = .ok (.istore 7, 2) := by decide +kernel
theorem dX3_fitting_29 : decode cX3_fitting 29 = .ok (.iload 7, 2) := by decide +kernel
theorem dX3_fitting_31 : decode cX3_fitting 31 = .ok (.iload 5, 2) := by decide +kernel
theorem dX3_fitting_33 : decode cX3_fitting 33 = .ok (.if_icmp .gt 42, 3) := by decide +kernel
theorem dX3_fitting_36 : decode cX3_fitting 36 = .ok (.aload_n 0, 1) := by decide +kernel
theorem dX3_fitting_37 : decode cX3_fitting 37 = .ok (.getfield 12, 3) := by decide +kernel
theorem dX3_fitting_40 : decode cX3_fitting 40 = .ok (.aload_n 1, 1) := by decide +kernel
theorem dX3_fitting_41 : decode cX3_fitting 41 = .ok (.invokevirtual 25, 3) := by decide +kernel
theorem dX3_fitting_44 : decode cX3_fitting 44 = .ok (.aload_n 0, 1) := by decide +kernel
theorem dX3_fitting_45 : decode cX3_fitting 45 = .ok (.iload_n 2, 1) := by decide +kernel
theorem dX3_fitting_46 : decode cX3_fitting 46 = .ok (.iload_n 3, 1) := by decide +kernel
theorem dX3_fitting_47 : decode cX3_fitting 47 = .ok (.iload 7, 2) := by decide +kernel
theorem dX3_fitting_49 : decode cX3_fitting 49 = .ok (.invokevirtual 85, 3) := by decide +kernel
theorem dX3_fitting_52 : decode cX3_fitting 52 = .ok (.aload_n 0, 1) := by decide +kernel
theorem dX3_fitting_53 : decode cX3_fitting 53 = .ok (.iload_n 2, 1) := by decide +kernel
theorem dX3_fitting_54 : decode cX3_fitting 54 = .ok (.invokevirtual 89, 3) := by decide +kernel
theorem dX3_fitting_57 : decode cX3_fitting 57 = .ok (.ifCond .eq 12, 3) := by decide +kernel
theorem dX3_fitting_60 : decode cX3_fitting 60 = .ok (.iload 6, 2) := by decide +kernel
theorem dX3_fitting_62 : decode cX3_fitting 62 = .ok (.iconst 1, 1) := by decide +kernel
theorem dX3_fitting_63 : decode cX3_fitting 63 = .ok (.iload 7, 2) := by decide +kernel
theorem dX3_fitting_65 : decode cX3_fitting 65 = .ok (.ishl, 1) := by decide +kernel
theorem dX3_fitting_66 : decode cX3_fitting 66 = .ok (.ior, 1) := by decide +kernel
theorem dX3_fitting_67 : decode cX3_fitting 67 = .ok (.istore 6, 2) := by decide +kernel
theorem dX3_fitting_69 : decode cX3_fitting 69 = .ok (.iinc 7 1, 3) := by decide +kernel
theorem dX3_fitting_72 : decode cX3_fitting 72 = .ok (.goto (-43), 3) := by decide +kernel
theorem dX3_fitting_75 : decode cX3_fitting 75 = .ok (.iload 6, 2) := by decide +kernel
theorem dX3_fitting_77 : decode cX3_fitting 77 = .ok (.ireturn, 1) := by decide +kernel
theorem dX3_mostOf_0 : decode cX3_mostOf 0 = .ok (.iload_n 0, 1) := by decide +kernel
theorem dX3_mostOf_1 : decode cX3_mostOf 1 = .ok (.tableswitch 34 0 2 #[27, 29, 31], 27) := by decide +kernel
theorem dX3_mostOf_28 : decode cX3_mostOf 28 = .ok (.iconst 5, 1) := by decide +kernel
theorem dX3_mostOf_29 : decode cX3_mostOf 29 = .ok (.ireturn, 1) := by decide +kernel
theorem dX3_mostOf_30 : decode cX3_mostOf 30 = .ok (.iconst 4, 1) := by decide +kernel
theorem dX3_mostOf_31 : decode cX3_mostOf 31 = .ok (.ireturn, 1) := by decide +kernel
theorem dX3_mostOf_32 : decode cX3_mostOf 32 = .ok (.bipush 9, 2) := by decide +kernel
theorem dX3_mostOf_34 : decode cX3_mostOf 34 = .ok (.ireturn, 1) := by decide +kernel
theorem dX3_mostOf_35 : decode cX3_mostOf 35 = .ok (.iload_n 1, 1) := by decide +kernel
theorem dX3_mostOf_36 : decode cX3_mostOf 36 = .ok (.iconst 1, 1) := by decide +kernel
theorem dX3_mostOf_37 : decode cX3_mostOf 37 = .ok (.isub, 1) := by decide +kernel
theorem dX3_mostOf_38 : decode cX3_mostOf 38 = .ok (.ireturn, 1) := by decide +kernel
theorem dX3_suppose_0 : decode cX3_suppose 0 = .ok (.iload_n 2, 1) := by decide +kernel
theorem dX3_suppose_1 : decode cX3_suppose 1 = .ok (.tableswitch 81 0 2 #[27, 48, 69], 27) := by decide +kernel
theorem dX3_suppose_28 : decode cX3_suppose 28 = .ok (.aload_n 0, 1) := by decide +kernel
theorem dX3_suppose_29 : decode cX3_suppose 29 = .ok (.getfield 12, 3) := by decide +kernel
theorem dX3_suppose_32 : decode cX3_suppose 32 = .ok (.iload_n 1, 1) := by decide +kernel
theorem dX3_suppose_33 : decode cX3_suppose 33 = .ok (.iload_n 3, 1) := by decide +kernel
theorem dX3_suppose_34 : decode cX3_suppose 34 = .ok (.aload_n 0, 1) := by decide +kernel
theorem dX3_suppose_35 : decode cX3_suppose 35 = .ok (.getfield 12, 3) := by decide +kernel
theorem dX3_suppose_38 : decode cX3_suppose 38 = .ok (.getfield 92, 3) := by decide +kernel
theorem dX3_suppose_41 : decode cX3_suppose 41 = .ok (.iload_n 1, 1) := by decide +kernel
theorem dX3_suppose_42 : decode cX3_suppose 42 = .ok (.iaload, 1) := by decide +kernel
theorem dX3_suppose_43 : decode cX3_suppose 43 = .ok (.invokevirtual 95, 3) := by decide +kernel
theorem dX3_suppose_46 : decode cX3_suppose 46 = .ok (.goto 53, 3) := by decide +kernel
theorem dX3_suppose_49 : decode cX3_suppose 49 = .ok (.aload_n 0, 1) := by decide +kernel
theorem dX3_suppose_50 : decode cX3_suppose 50 = .ok (.getfield 12, 3) := by decide +kernel
theorem dX3_suppose_53 : decode cX3_suppose 53 = .ok (.iload_n 1, 1) := by decide +kernel
theorem dX3_suppose_54 : decode cX3_suppose 54 = .ok (.aload_n 0, 1) := by decide +kernel
theorem dX3_suppose_55 : decode cX3_suppose 55 = .ok (.getfield 12, 3) := by decide +kernel
theorem dX3_suppose_58 : decode cX3_suppose 58 = .ok (.getfield 98, 3) := by decide +kernel
theorem dX3_suppose_61 : decode cX3_suppose 61 = .ok (.iload_n 1, 1) := by decide +kernel
theorem dX3_suppose_62 : decode cX3_suppose 62 = .ok (.iaload, 1) := by decide +kernel
theorem dX3_suppose_63 : decode cX3_suppose 63 = .ok (.iload_n 3, 1) := by decide +kernel
theorem dX3_suppose_64 : decode cX3_suppose 64 = .ok (.invokevirtual 95, 3) := by decide +kernel
theorem dX3_suppose_67 : decode cX3_suppose 67 = .ok (.goto 32, 3) := by decide +kernel
theorem dX3_suppose_70 : decode cX3_suppose 70 = .ok (.aload_n 0, 1) := by decide +kernel
theorem dX3_suppose_71 : decode cX3_suppose 71 = .ok (.getfield 12, 3) := by decide +kernel
theorem dX3_suppose_74 : decode cX3_suppose 74 = .ok (.iload_n 1, 1) := by decide +kernel
theorem dX3_suppose_75 : decode cX3_suppose 75 = .ok (.iload_n 3, 1) := by decide +kernel
theorem dX3_suppose_76 : decode cX3_suppose 76 = .ok (.invokevirtual 101, 3) := by decide +kernel
theorem dX3_suppose_79 : decode cX3_suppose 79 = .ok (.goto 20, 3) := by decide +kernel
theorem dX3_suppose_82 : decode cX3_suppose 82 = .ok (.aload_n 0, 1) := by decide +kernel
theorem dX3_suppose_83 : decode cX3_suppose 83 = .ok (.getfield 12, 3) := by decide +kernel
theorem dX3_suppose_86 : decode cX3_suppose 86 = .ok (.iload_n 1, 1) := by decide +kernel
theorem dX3_suppose_87 : decode cX3_suppose 87 = .ok (.aload_n 0, 1) := by decide +kernel
theorem dX3_suppose_88 : decode cX3_suppose 88 = .ok (.getfield 12, 3) := by decide +kernel
theorem dX3_suppose_91 : decode cX3_suppose 91 = .ok (.getfield 104, 3) := by decide +kernel
theorem dX3_suppose_94 : decode cX3_suppose 94 = .ok (.iload_n 3, 1) := by decide +kernel
theorem dX3_suppose_95 : decode cX3_suppose 95 = .ok (.iaload, 1) := by decide +kernel
theorem dX3_suppose_96 : decode cX3_suppose 96 = .ok (.invokevirtual 74, 3) := by decide +kernel
theorem dX3_suppose_99 : decode cX3_suppose 99 = .ok (.return_, 1) := by decide +kernel
theorem dX3_risesAsHeard_0 : decode cX3_risesAsHeard 0 = .ok (.iconst 0, 1) := by decide +kernel
theorem dX3_risesAsHeard_1 : decode cX3_risesAsHeard 1 = .ok (.istore_n 2, 1) := by decide +kernel
theorem dX3_risesAsHeard_2 : decode cX3_risesAsHeard 2 = .ok (.iload_n 2, 1) := by decide +kernel
theorem dX3_risesAsHeard_3 : decode cX3_risesAsHeard 3 = .ok (.aload_n 0, 1) := by decide +kernel
theorem dX3_risesAsHeard_4 : decode cX3_risesAsHeard 4 = .ok (.getfield 52, 3) := by decide +kernel
theorem dX3_risesAsHeard_7 : decode cX3_risesAsHeard 7 = .ok (.if_icmp .ge 37, 3) := by decide +kernel
theorem dX3_risesAsHeard_10 : decode cX3_risesAsHeard 10 = .ok (.aload_n 0, 1) := by decide +kernel
theorem dX3_risesAsHeard_11 : decode cX3_risesAsHeard 11 = .ok (.getfield 12, 3) := by decide +kernel
theorem dX3_risesAsHeard_14 : decode cX3_risesAsHeard 14 = .ok (.invokevirtual 37, 3) := by decide +kernel
theorem dX3_risesAsHeard_17 : decode cX3_risesAsHeard 17 = .ok (.pop, 1) := by decide +kernel
theorem dX3_risesAsHeard_18 : decode cX3_risesAsHeard 18 = .ok (.aload_n 0, 1) := by decide +kernel
theorem dX3_risesAsHeard_19 : decode cX3_risesAsHeard 19 = .ok (.getfield 12, 3) := by decide +kernel
theorem dX3_risesAsHeard_22 : decode cX3_risesAsHeard 22 = .ok (.getfield 107, 3) := by decide +kernel
theorem dX3_risesAsHeard_25 : decode cX3_risesAsHeard 25 = .ok (.iload_n 1, 1) := by decide +kernel
theorem dX3_risesAsHeard_26 : decode cX3_risesAsHeard 26 = .ok (.iaload, 1) := by decide +kernel
theorem dX3_risesAsHeard_27 : decode cX3_risesAsHeard 27 = .ok (.aload_n 0, 1) := by decide +kernel
theorem dX3_risesAsHeard_28 : decode cX3_risesAsHeard 28 = .ok (.getfield 21, 3) := by decide +kernel
theorem dX3_risesAsHeard_31 : decode cX3_risesAsHeard 31 = .ok (.iload_n 2, 1) := by decide +kernel
theorem dX3_risesAsHeard_32 : decode cX3_risesAsHeard 32 = .ok (.iaload, 1) := by decide +kernel
theorem dX3_risesAsHeard_33 : decode cX3_risesAsHeard 33 = .ok (.if_icmp .eq 5, 3) := by decide +kernel
theorem dX3_risesAsHeard_36 : decode cX3_risesAsHeard 36 = .ok (.iconst 0, 1) := by decide +kernel
theorem dX3_risesAsHeard_37 : decode cX3_risesAsHeard 37 = .ok (.ireturn, 1) := by decide +kernel
theorem dX3_risesAsHeard_38 : decode cX3_risesAsHeard 38 = .ok (.iinc 2 1, 3) := by decide +kernel
theorem dX3_risesAsHeard_41 : decode cX3_risesAsHeard 41 = .ok (.goto (-39), 3) := by decide +kernel
theorem dX3_risesAsHeard_44 : decode cX3_risesAsHeard 44 = .ok (.iconst 1, 1) := by decide +kernel
theorem dX3_risesAsHeard_45 : decode cX3_risesAsHeard 45 = .ok (.ireturn, 1) := by decide +kernel
theorem dX3_waysClear_0 : decode cX3_waysClear 0 = .ok (.lconst 0, 1) := by decide +kernel
theorem dX3_waysClear_1 : decode cX3_waysClear 1 = .ok (.lstore 4, 2) := by decide +kernel
theorem dX3_waysClear_3 : decode cX3_waysClear 3 = .ok (.iconst 0, 1) := by decide +kernel
theorem dX3_waysClear_4 : decode cX3_waysClear 4 = .ok (.istore 6, 2) := by decide +kernel
theorem dX3_waysClear_6 : decode cX3_waysClear 6 = .ok (.iload 6, 2) := by decide +kernel
theorem dX3_waysClear_8 : decode cX3_waysClear 8 = .ok (.aload_n 1, 1) := by decide +kernel
theorem dX3_waysClear_9 : decode cX3_waysClear 9 = .ok (.getfield 110, 3) := by decide +kernel
theorem dX3_waysClear_12 : decode cX3_waysClear 12 = .ok (.if_icmp .gt 92, 3) := by decide +kernel
theorem dX3_waysClear_15 : decode cX3_waysClear 15 = .ok (.iload 6, 2) := by decide +kernel
theorem dX3_waysClear_17 : decode cX3_waysClear 17 = .ok (.aload_n 1, 1) := by decide +kernel
theorem dX3_waysClear_18 : decode cX3_waysClear 18 = .ok (.getfield 110, 3) := by decide +kernel
theorem dX3_waysClear_21 : decode cX3_waysClear 21 = .ok (.iconst (-1), 1) := by decide +kernel
theorem dX3_waysClear_22 : decode cX3_waysClear 22 = .ok (.ixor, 1) := by decide +kernel
theorem dX3_waysClear_23 : decode cX3_waysClear 23 = .ok (.iand, 1) := by decide +kernel
theorem dX3_waysClear_24 : decode cX3_waysClear 24 = .ok (.ifCond .ne 74, 3) := by decide +kernel
theorem dX3_waysClear_27 : decode cX3_waysClear 27 = .ok (.aload_n 0, 1) := by decide +kernel
theorem dX3_waysClear_28 : decode cX3_waysClear 28 = .ok (.getfield 12, 3) := by decide +kernel
theorem dX3_waysClear_31 : decode cX3_waysClear 31 = .ok (.aload_n 1, 1) := by decide +kernel
theorem dX3_waysClear_32 : decode cX3_waysClear 32 = .ok (.invokevirtual 25, 3) := by decide +kernel
theorem dX3_waysClear_35 : decode cX3_waysClear 35 = .ok (.aload_n 0, 1) := by decide +kernel
theorem dX3_waysClear_36 : decode cX3_waysClear 36 = .ok (.getfield 12, 3) := by decide +kernel
theorem dX3_waysClear_39 : decode cX3_waysClear 39 = .ok (.iload 6, 2) := by decide +kernel
theorem dX3_waysClear_41 : decode cX3_waysClear 41 = .ok (.invokevirtual 113, 3) := by decide +kernel
theorem dX3_waysClear_44 : decode cX3_waysClear 44 = .ok (.aload_n 0, 1) := by decide +kernel
theorem dX3_waysClear_45 : decode cX3_waysClear 45 = .ok (.getfield 12, 3) := by decide +kernel
theorem dX3_waysClear_48 : decode cX3_waysClear 48 = .ok (.getfield 110, 3) := by decide +kernel
theorem dX3_waysClear_51 : decode cX3_waysClear 51 = .ok (.invokestatic 116, 3) := by decide +kernel
theorem dX3_waysClear_54 : decode cX3_waysClear 54 = .ok (.istore 7, 2) := by decide +kernel
theorem dX3_waysClear_56 : decode cX3_waysClear 56 = .ok (.aload_n 0, 1) := by decide +kernel
theorem dX3_waysClear_57 : decode cX3_waysClear 57 = .ok (.getfield 12, 3) := by decide +kernel
theorem dX3_waysClear_60 : decode cX3_waysClear 60 = .ok (.iload_n 2, 1) := by decide +kernel
theorem dX3_waysClear_61 : decode cX3_waysClear 61 = .ok (.invokevirtual 29, 3) := by decide +kernel
theorem dX3_waysClear_64 : decode cX3_waysClear 64 = .ok (.aload_n 0, 1) := by decide +kernel
theorem dX3_waysClear_65 : decode cX3_waysClear 65 = .ok (.getfield 12, 3) := by decide +kernel
theorem dX3_waysClear_68 : decode cX3_waysClear 68 = .ok (.getfield 33, 3) := by decide +kernel
theorem dX3_waysClear_71 : decode cX3_waysClear 71 = .ok (.ifCond .ne 27, 3) := by decide +kernel
theorem dX3_waysClear_74 : decode cX3_waysClear 74 = .ok (.lload 4, 2) := by decide +kernel
theorem dX3_waysClear_76 : decode cX3_waysClear 76 = .ok (.iload_n 3, 1) := by decide +kernel
theorem dX3_waysClear_77 : decode cX3_waysClear 77 = .ok (.iload 6, 2) := by decide +kernel
theorem dX3_waysClear_79 : decode cX3_waysClear 79 = .ok (.invokestatic 116, 3) := by decide +kernel
theorem dX3_waysClear_82 : decode cX3_waysClear 82 = .ok (.invokestatic 121, 3) := by decide +kernel
theorem dX3_waysClear_85 : decode cX3_waysClear 85 = .ok (.bipush 10, 2) := by decide +kernel
theorem dX3_waysClear_87 : decode cX3_waysClear 87 = .ok (.iload_n 3, 1) := by decide +kernel
theorem dX3_waysClear_88 : decode cX3_waysClear 88 = .ok (.isub, 1) := by decide +kernel
theorem dX3_waysClear_89 : decode cX3_waysClear 89 = .ok (.iload 7, 2) := by decide +kernel
theorem dX3_waysClear_91 : decode cX3_waysClear 91 = .ok (.invokestatic 121, 3) := by decide +kernel
theorem dX3_waysClear_94 : decode cX3_waysClear 94 = .ok (.lmul, 1) := by decide +kernel
theorem dX3_waysClear_95 : decode cX3_waysClear 95 = .ok (.ladd, 1) := by decide +kernel
theorem dX3_waysClear_96 : decode cX3_waysClear 96 = .ok (.lstore 4, 2) := by decide +kernel
theorem dX3_waysClear_98 : decode cX3_waysClear 98 = .ok (.iinc 6 1, 3) := by decide +kernel
theorem dX3_waysClear_101 : decode cX3_waysClear 101 = .ok (.goto (-95), 3) := by decide +kernel
theorem dX3_waysClear_104 : decode cX3_waysClear 104 = .ok (.lload 4, 2) := by decide +kernel
theorem dX3_waysClear_106 : decode cX3_waysClear 106 = .ok (.lreturn, 1) := by decide +kernel
theorem dX3_printedByDraws_0 : decode cX3_printedByDraws 0 = .ok (.aload_n 0, 1) := by decide +kernel
theorem dX3_printedByDraws_1 : decode cX3_printedByDraws 1 = .ok (.getfield 12, 3) := by decide +kernel
theorem dX3_printedByDraws_4 : decode cX3_printedByDraws 4 = .ok (.aload_n 1, 1) := by decide +kernel
theorem dX3_printedByDraws_5 : decode cX3_printedByDraws 5 = .ok (.invokevirtual 25, 3) := by decide +kernel
theorem dX3_printedByDraws_8 : decode cX3_printedByDraws 8 = .ok (.aload_n 1, 1) := by decide +kernel
theorem dX3_printedByDraws_9 : decode cX3_printedByDraws 9 = .ok (.getfield 71, 3) := by decide +kernel
theorem dX3_printedByDraws_12 : decode cX3_printedByDraws 12 = .ok (.ifCond .gt 5, 3) := by decide +kernel
theorem dX3_printedByDraws_15 : decode cX3_printedByDraws 15 = .ok (.iconst 0, 1) := by decide +kernel
theorem dX3_printedByDraws_16 : decode cX3_printedByDraws 16 = .ok (.ireturn, 1) := by decide +kernel
theorem dX3_printedByDraws_17 : decode cX3_printedByDraws 17 = .ok (.iconst 0, 1) := by decide +kernel
theorem dX3_printedByDraws_18 : decode cX3_printedByDraws 18 = .ok (.istore 4, 2) := by decide +kernel
theorem dX3_printedByDraws_20 : decode cX3_printedByDraws 20 = .ok (.iload_n 3, 1) := by decide +kernel
theorem dX3_printedByDraws_21 : decode cX3_printedByDraws 21 = .ok (.i2l, 1) := by decide +kernel
theorem dX3_printedByDraws_22 : decode cX3_printedByDraws 22 = .ok (.lstore 5, 2) := by decide +kernel
theorem dX3_printedByDraws_24 : decode cX3_printedByDraws 24 = .ok (.iconst 0, 1) := by decide +kernel
theorem dX3_printedByDraws_25 : decode cX3_printedByDraws 25 = .ok (.istore 7, 2) := by decide +kernel
theorem dX3_printedByDraws_27 : decode cX3_printedByDraws 27 = .ok (.iload 7, 2) := by decide +kernel
theorem dX3_printedByDraws_29 : decode cX3_printedByDraws 29 = .ok (.iload_n 2, 1) := by decide +kernel
theorem dX3_printedByDraws_30 : decode cX3_printedByDraws 30 = .ok (.if_icmp .ge 101, 3) := by decide +kernel
theorem dX3_printedByDraws_33 : decode cX3_printedByDraws 33 = .ok (.lload 5, 2) := by decide +kernel
theorem dX3_printedByDraws_35 : decode cX3_printedByDraws 35 = .ok (.ldc2_w 125, 3) := by decide +kernel
theorem dX3_printedByDraws_38 : decode cX3_printedByDraws 38 = .ok (.lmul, 1) := by decide +kernel
theorem dX3_printedByDraws_39 : decode cX3_printedByDraws 39 = .ok (.ldc2_w 127, 3) := by decide +kernel
theorem dX3_printedByDraws_42 : decode cX3_printedByDraws 42 = .ok (.lrem, 1) := by decide +kernel
theorem dX3_printedByDraws_43 : decode cX3_printedByDraws 43 = .ok (.lstore 5, 2) := by decide +kernel
theorem dX3_printedByDraws_45 : decode cX3_printedByDraws 45 = .ok (.lload 5, 2) := by decide +kernel
theorem dX3_printedByDraws_47 : decode cX3_printedByDraws 47 = .ok (.ldc2_w 129, 3) := by decide +kernel
theorem dX3_printedByDraws_50 : decode cX3_printedByDraws 50 = .ok (.lrem, 1) := by decide +kernel
theorem dX3_printedByDraws_51 : decode cX3_printedByDraws 51 = .ok (.lconst 0, 1) := by decide +kernel
theorem dX3_printedByDraws_52 : decode cX3_printedByDraws 52 = .ok (.lcmp, 1) := by decide +kernel
theorem dX3_printedByDraws_53 : decode cX3_printedByDraws 53 = .ok (.ifCond .ne 17, 3) := by decide +kernel
theorem dX3_printedByDraws_56 : decode cX3_printedByDraws 56 = .ok (.aload_n 0, 1) := by decide +kernel
theorem dX3_printedByDraws_57 : decode cX3_printedByDraws 57 = .ok (.getfield 12, 3) := by decide +kernel
theorem dX3_printedByDraws_60 : decode cX3_printedByDraws 60 = .ok (.aload_n 0, 1) := by decide +kernel
theorem dX3_printedByDraws_61 : decode cX3_printedByDraws 61 = .ok (.getfield 12, 3) := by decide +kernel
theorem dX3_printedByDraws_64 : decode cX3_printedByDraws 64 = .ok (.getfield 33, 3) := by decide +kernel
theorem dX3_printedByDraws_67 : decode cX3_printedByDraws 67 = .ok (.invokevirtual 113, 3) := by decide +kernel
theorem dX3_printedByDraws_70 : decode cX3_printedByDraws 70 = .ok (.lload 5, 2) := by decide +kernel
theorem dX3_printedByDraws_72 : decode cX3_printedByDraws 72 = .ok (.aload_n 1, 1) := by decide +kernel
theorem dX3_printedByDraws_73 : decode cX3_printedByDraws 73 = .ok (.getfield 71, 3) := by decide +kernel
theorem dX3_printedByDraws_76 : decode cX3_printedByDraws 76 = .ok (.i2l, 1) := by decide +kernel
theorem dX3_printedByDraws_77 : decode cX3_printedByDraws 77 = .ok (.lrem, 1) := by decide +kernel
theorem dX3_printedByDraws_78 : decode cX3_printedByDraws 78 = .ok (.l2i, 1) := by decide +kernel
theorem dX3_printedByDraws_79 : decode cX3_printedByDraws 79 = .ok (.istore 8, 2) := by decide +kernel
theorem dX3_printedByDraws_81 : decode cX3_printedByDraws 81 = .ok (.lload 5, 2) := by decide +kernel
theorem dX3_printedByDraws_83 : decode cX3_printedByDraws 83 = .ok (.ldc2_w 131, 3) := by decide +kernel
theorem dX3_printedByDraws_86 : decode cX3_printedByDraws 86 = .ok (.lrem, 1) := by decide +kernel
theorem dX3_printedByDraws_87 : decode cX3_printedByDraws 87 = .ok (.lconst 0, 1) := by decide +kernel
theorem dX3_printedByDraws_88 : decode cX3_printedByDraws 88 = .ok (.lcmp, 1) := by decide +kernel
theorem dX3_printedByDraws_89 : decode cX3_printedByDraws 89 = .ok (.ifCond .ne 24, 3) := by decide +kernel
theorem dX3_printedByDraws_92 : decode cX3_printedByDraws 92 = .ok (.aload_n 0, 1) := by decide +kernel
theorem dX3_printedByDraws_93 : decode cX3_printedByDraws 93 = .ok (.getfield 12, 3) := by decide +kernel
theorem dX3_printedByDraws_96 : decode cX3_printedByDraws 96 = .ok (.iload 8, 2) := by decide +kernel
theorem dX3_printedByDraws_98 : decode cX3_printedByDraws 98 = .ok (.invokevirtual 42, 3) := by decide +kernel
theorem dX3_printedByDraws_101 : decode cX3_printedByDraws 101 = .ok (.ifCond .eq 12, 3) := by decide +kernel
theorem dX3_printedByDraws_104 : decode cX3_printedByDraws 104 = .ok (.aload_n 0, 1) := by decide +kernel
theorem dX3_printedByDraws_105 : decode cX3_printedByDraws 105 = .ok (.getfield 12, 3) := by decide +kernel
theorem dX3_printedByDraws_108 : decode cX3_printedByDraws 108 = .ok (.iload 8, 2) := by decide +kernel
theorem dX3_printedByDraws_110 : decode cX3_printedByDraws 110 = .ok (.invokevirtual 49, 3) := by decide +kernel
theorem dX3_printedByDraws_113 : decode cX3_printedByDraws 113 = .ok (.iload 4, 2) := by decide +kernel
theorem dX3_printedByDraws_115 : decode cX3_printedByDraws 115 = .ok (.aload_n 0, 1) := by decide +kernel
theorem dX3_printedByDraws_116 : decode cX3_printedByDraws 116 = .ok (.getfield 12, 3) := by decide +kernel
theorem dX3_printedByDraws_119 : decode cX3_printedByDraws 119 = .ok (.invokevirtual 37, 3) := by decide +kernel
theorem dX3_printedByDraws_122 : decode cX3_printedByDraws 122 = .ok (.iadd, 1) := by decide +kernel
theorem dX3_printedByDraws_123 : decode cX3_printedByDraws 123 = .ok (.istore 4, 2) := by decide +kernel
theorem dX3_printedByDraws_125 : decode cX3_printedByDraws 125 = .ok (.iinc 7 1, 3) := by decide +kernel
theorem dX3_printedByDraws_128 : decode cX3_printedByDraws 128 = .ok (.goto (-101), 3) := by decide +kernel
theorem dX3_printedByDraws_131 : decode cX3_printedByDraws 131 = .ok (.iload 4, 2) := by decide +kernel
theorem dX3_printedByDraws_133 : decode cX3_printedByDraws 133 = .ok (.ireturn, 1) := by decide +kernel
theorem dX4_init_0 : decode cX4_init 0 = .ok (.aload_n 0, 1) := by decide +kernel
theorem dX4_init_1 : decode cX4_init 1 = .ok (.invokespecial 3, 3) := by decide +kernel
theorem dX4_init_4 : decode cX4_init 4 = .ok (.aload_n 0, 1) := by decide +kernel
theorem dX4_init_5 : decode cX4_init 5 = .ok (.bipush 40, 2) := by decide +kernel
theorem dX4_init_7 : decode cX4_init 7 = .ok (.newarray .int, 2) := by decide +kernel
theorem dX4_init_9 : decode cX4_init 9 = .ok (.putfield 9, 3) := by decide +kernel
theorem dX4_init_12 : decode cX4_init 12 = .ok (.aload_n 0, 1) := by decide +kernel
theorem dX4_init_13 : decode cX4_init 13 = .ok (.iconst 1, 1) := by decide +kernel
theorem dX4_init_14 : decode cX4_init 14 = .ok (.putfield 15, 3) := by decide +kernel
theorem dX4_init_17 : decode cX4_init 17 = .ok (.return_, 1) := by decide +kernel
theorem dX4_make_0 : decode cX4_make 0 = .ok (.aload_n 0, 1) := by decide +kernel
theorem dX4_make_1 : decode cX4_make 1 = .ok (.iconst 0, 1) := by decide +kernel
theorem dX4_make_2 : decode cX4_make 2 = .ok (.putfield 15, 3) := by decide +kernel
theorem dX4_make_5 : decode cX4_make 5 = .ok (.aload_n 0, 1) := by decide +kernel
theorem dX4_make_6 : decode cX4_make 6 = .ok (.iload_n 1, 1) := by decide +kernel
theorem dX4_make_7 : decode cX4_make 7 = .ok (.putfield 19, 3) := by decide +kernel
theorem dX4_make_10 : decode cX4_make 10 = .ok (.aload_n 0, 1) := by decide +kernel
theorem dX4_make_11 : decode cX4_make 11 = .ok (.iload_n 2, 1) := by decide +kernel
theorem dX4_make_12 : decode cX4_make 12 = .ok (.putfield 23, 3) := by decide +kernel
theorem dX4_make_15 : decode cX4_make 15 = .ok (.aload_n 0, 1) := by decide +kernel
theorem dX4_make_16 : decode cX4_make 16 = .ok (.getfield 9, 3) := by decide +kernel
theorem dX4_make_19 : decode cX4_make 19 = .ok (.iconst 0, 1) := by decide +kernel
theorem dX4_make_20 : decode cX4_make 20 = .ok (.invokestatic 26, 3) := by decide +kernel
theorem dX4_make_23 : decode cX4_make 23 = .ok (.return_, 1) := by decide +kernel
theorem dX4_has_0 : decode cX4_has 0 = .ok (.iload_n 1, 1) := by decide +kernel
theorem dX4_has_1 : decode cX4_has 1 = .ok (.ifCond .lt 21, 3) := by decide +kernel
theorem dX4_has_4 : decode cX4_has 4 = .ok (.iload_n 2, 1) := by decide +kernel
theorem dX4_has_5 : decode cX4_has 5 = .ok (.ifCond .lt 17, 3) := by decide +kernel
theorem dX4_has_8 : decode cX4_has 8 = .ok (.iload_n 1, 1) := by decide +kernel
theorem dX4_has_9 : decode cX4_has 9 = .ok (.aload_n 0, 1) := by decide +kernel
theorem dX4_has_10 : decode cX4_has 10 = .ok (.getfield 23, 3) := by decide +kernel
theorem dX4_has_13 : decode cX4_has 13 = .ok (.iload_n 2, 1) := by decide +kernel
theorem dX4_has_14 : decode cX4_has 14 = .ok (.isub, 1) := by decide +kernel
theorem dX4_has_15 : decode cX4_has 15 = .ok (.if_icmp .gt 7, 3) := by decide +kernel
theorem dX4_has_18 : decode cX4_has 18 = .ok (.iconst 1, 1) := by decide +kernel
theorem dX4_has_19 : decode cX4_has 19 = .ok (.goto 4, 3) := by decide +kernel
theorem dX4_has_22 : decode cX4_has 22 = .ok (.iconst 0, 1) := by decide +kernel
theorem dX4_has_23 : decode cX4_has 23 = .ok (.ireturn, 1) := by decide +kernel
theorem dX4_put_0 : decode cX4_put 0 = .ok (.iload_n 2, 1) := by decide +kernel
theorem dX4_put_1 : decode cX4_put 1 = .ok (.istore_n 3, 1) := by decide +kernel
theorem dX4_put_2 : decode cX4_put 2 = .ok (.aload_n 0, 1) := by decide +kernel
theorem dX4_put_3 : decode cX4_put 3 = .ok (.getfield 19, 3) := by decide +kernel
theorem dX4_put_6 : decode cX4_put 6 = .ok (.ifCond .ne 9, 3) := by decide +kernel
theorem dX4_put_9 : decode cX4_put 9 = .ok (.iload_n 2, 1) := by decide +kernel
theorem dX4_put_10 : decode cX4_put 10 = .ok (.i2b, 1) := by decide +kernel
theorem dX4_put_11 : decode cX4_put 11 = .ok (.istore_n 3, 1) := by decide +kernel
theorem dX4_put_12 : decode cX4_put 12 = .ok (.goto 14, 3) := by decide +kernel
theorem dX4_put_15 : decode cX4_put 15 = .ok (.aload_n 0, 1) := by decide +kernel
theorem dX4_put_16 : decode cX4_put 16 = .ok (.getfield 19, 3) := by decide +kernel
theorem dX4_put_19 : decode cX4_put 19 = .ok (.iconst 1, 1) := by decide +kernel
theorem dX4_put_20 : decode cX4_put 20 = .ok (.if_icmp .ne 6, 3) := by decide +kernel
theorem dX4_put_23 : decode cX4_put 23 = .ok (.iload_n 2, 1) := by decide +kernel
theorem dX4_put_24 : decode cX4_put 24 = .ok (.i2s, 1) := by decide +kernel
theorem dX4_put_25 : decode cX4_put 25 = .ok (.istore_n 3, 1) := by decide +kernel
theorem dX4_put_26 : decode cX4_put 26 = .ok (.aload_n 0, 1) := by decide +kernel
theorem dX4_put_27 : decode cX4_put 27 = .ok (.getfield 9, 3) := by decide +kernel
theorem dX4_put_30 : decode cX4_put 30 = .ok (.iload_n 1, 1) := by decide +kernel
theorem dX4_put_31 : decode cX4_put 31 = .ok (.iload_n 3, 1) := by decide +kernel
theorem dX4_put_32 : decode cX4_put 32 = .ok (.iastore, 1) := by decide +kernel
theorem dX4_put_33 : decode cX4_put 33 = .ok (.iload_n 3, 1) := by decide +kernel
theorem dX4_put_34 : decode cX4_put 34 = .ok (.ireturn, 1) := by decide +kernel
theorem dX5_init_0 : decode cX5_init 0 = .ok (.aload_n 0, 1) := by decide +kernel
theorem dX5_init_1 : decode cX5_init 1 = .ok (.invokespecial 3, 3) := by decide +kernel
theorem dX5_init_4 : decode cX5_init 4 = .ok (.aload_n 0, 1) := by decide +kernel
theorem dX5_init_5 : decode cX5_init 5 = .ok (.bipush 60, 2) := by decide +kernel
theorem dX5_init_7 : decode cX5_init 7 = .ok (.newarray .int, 2) := by decide +kernel
theorem dX5_init_9 : decode cX5_init 9 = .ok (.putfield 9, 3) := by decide +kernel
theorem dX5_init_12 : decode cX5_init 12 = .ok (.return_, 1) := by decide +kernel
theorem dX5_take_0 : decode cX5_take 0 = .ok (.aload_n 0, 1) := by decide +kernel
theorem dX5_take_1 : decode cX5_take 1 = .ok (.getfield 15, 3) := by decide +kernel
theorem dX5_take_4 : decode cX5_take 4 = .ok (.bipush 60, 2) := by decide +kernel
theorem dX5_take_6 : decode cX5_take 6 = .ok (.if_icmp .lt 5, 3) := by decide +kernel
theorem dX5_take_9 : decode cX5_take 9 = .ok (.iconst 0, 1) := by decide +kernel
theorem dX5_take_10 : decode cX5_take 10 = .ok (.ireturn, 1) := by decide +kernel
theorem dX5_take_11 : decode cX5_take 11 = .ok (.aload_n 0, 1) := by decide +kernel
theorem dX5_take_12 : decode cX5_take 12 = .ok (.getfield 9, 3) := by decide +kernel
theorem dX5_take_15 : decode cX5_take 15 = .ok (.aload_n 0, 1) := by decide +kernel
theorem dX5_take_16 : decode cX5_take 16 = .ok (.getfield 15, 3) := by decide +kernel
theorem dX5_take_19 : decode cX5_take 19 = .ok (.iload_n 1, 1) := by decide +kernel
theorem dX5_take_20 : decode cX5_take 20 = .ok (.iastore, 1) := by decide +kernel
theorem dX5_take_21 : decode cX5_take 21 = .ok (.aload_n 0, 1) := by decide +kernel
theorem dX5_take_22 : decode cX5_take 22 = .ok (.dup, 1) := by decide +kernel
theorem dX5_take_23 : decode cX5_take 23 = .ok (.getfield 15, 3) := by decide +kernel
theorem dX5_take_26 : decode cX5_take 26 = .ok (.iconst 1, 1) := by decide +kernel
theorem dX5_take_27 : decode cX5_take 27 = .ok (.iadd, 1) := by decide +kernel
theorem dX5_take_28 : decode cX5_take 28 = .ok (.putfield 15, 3) := by decide +kernel
theorem dX5_take_31 : decode cX5_take 31 = .ok (.iconst 1, 1) := by decide +kernel
theorem dX5_take_32 : decode cX5_take 32 = .ok (.ireturn, 1) := by decide +kernel
theorem dX5_readInto_0 : decode cX5_readInto 0 = .ok (.aload_n 1, 1) := by decide +kernel
theorem dX5_readInto_1 : decode cX5_readInto 1 = .ok (.invokevirtual 19, 3) := by decide +kernel
theorem dX5_readInto_4 : decode cX5_readInto 4 = .ok (.aload_n 0, 1) := by decide +kernel
theorem dX5_readInto_5 : decode cX5_readInto 5 = .ok (.iconst 0, 1) := by decide +kernel
theorem dX5_readInto_6 : decode cX5_readInto 6 = .ok (.putfield 24, 3) := by decide +kernel
theorem dX5_readInto_9 : decode cX5_readInto 9 = .ok (.aload_n 0, 1) := by decide +kernel
theorem dX5_readInto_10 : decode cX5_readInto 10 = .ok (.aload_n 1, 1) := by decide +kernel
theorem dX5_readInto_11 : decode cX5_readInto 11 = .ok (.invokevirtual 27, 3) := by decide +kernel
theorem dX5_readInto_14 : decode cX5_readInto 14 = .ok (.istore_n 2, 1) := by decide +kernel
theorem dX5_readInto_15 : decode cX5_readInto 15 = .ok (.iconst 0, 1) := by decide +kernel
theorem dX5_readInto_16 : decode cX5_readInto 16 = .ok (.istore_n 3, 1) := by decide +kernel
theorem dX5_readInto_17 : decode cX5_readInto 17 = .ok (.iload_n 3, 1) := by decide +kernel
theorem dX5_readInto_18 : decode cX5_readInto 18 = .ok (.bipush 8, 2) := by decide +kernel
theorem dX5_readInto_20 : decode cX5_readInto 20 = .ok (.if_icmp .ge 30, 3) := by decide +kernel
theorem dX5_readInto_23 : decode cX5_readInto 23 = .ok (.iload_n 2, 1) := by decide +kernel
theorem dX5_readInto_24 : decode cX5_readInto 24 = .ok (.ifCond .ne 26, 3) := by decide +kernel
theorem dX5_readInto_27 : decode cX5_readInto 27 = .ok (.aload_n 0, 1) := by decide +kernel
theorem dX5_readInto_28 : decode cX5_readInto 28 = .ok (.getfield 24, 3) := by decide +kernel
theorem dX5_readInto_31 : decode cX5_readInto 31 = .ok (.aload_n 0, 1) := by decide +kernel
theorem dX5_readInto_32 : decode cX5_readInto 32 = .ok (.getfield 15, 3) := by decide +kernel
theorem dX5_readInto_35 : decode cX5_readInto 35 = .ok (.if_icmp .ge 15, 3) := by decide +kernel
theorem dX5_readInto_38 : decode cX5_readInto 38 = .ok (.aload_n 0, 1) := by decide +kernel
theorem dX5_readInto_39 : decode cX5_readInto 39 = .ok (.aload_n 1, 1) := by decide +kernel
theorem dX5_readInto_40 : decode cX5_readInto 40 = .ok (.invokevirtual 27, 3) := by decide +kernel
theorem dX5_readInto_43 : decode cX5_readInto 43 = .ok (.istore_n 2, 1) := by decide +kernel
theorem dX5_readInto_44 : decode cX5_readInto 44 = .ok (.iinc 3 1, 3) := by decide +kernel
theorem dX5_readInto_47 : decode cX5_readInto 47 = .ok (.goto (-30), 3) := by decide +kernel
theorem dX5_readInto_50 : decode cX5_readInto 50 = .ok (.aload_n 0, 1) := by decide +kernel
theorem dX5_readInto_51 : decode cX5_readInto 51 = .ok (.iconst 0, 1) := by decide +kernel
theorem dX5_readInto_52 : decode cX5_readInto 52 = .ok (.putfield 15, 3) := by decide +kernel
theorem dX5_readInto_55 : decode cX5_readInto 55 = .ok (.iload_n 2, 1) := by decide +kernel
theorem dX5_readInto_56 : decode cX5_readInto 56 = .ok (.ireturn, 1) := by decide +kernel
theorem dX5_readBar_0 : decode cX5_readBar 0 = .ok (.aload_n 0, 1) := by decide +kernel
theorem dX5_readBar_1 : decode cX5_readBar 1 = .ok (.aload_n 0, 1) := by decide +kernel
theorem dX5_readBar_2 : decode cX5_readBar 2 = .ok (.getfield 24, 3) := by decide +kernel
theorem dX5_readBar_5 : decode cX5_readBar 5 = .ok (.invokevirtual 31, 3) := by decide +kernel
theorem dX5_readBar_8 : decode cX5_readBar 8 = .ok (.invokestatic 35, 3) := by decide +kernel
theorem dX5_readBar_11 : decode cX5_readBar 11 = .ok (.istore_n 2, 1) := by decide +kernel
theorem dX5_readBar_12 : decode cX5_readBar 12 = .ok (.iload_n 2, 1) := by decide +kernel
theorem dX5_readBar_13 : decode cX5_readBar 13 = .ok (.ifCond .ne 5, 3) := by decide +kernel
theorem dX5_readBar_16 : decode cX5_readBar 16 = .ok (.iconst 1, 1) := by decide +kernel
theorem dX5_readBar_17 : decode cX5_readBar 17 = .ok (.ireturn, 1) := by decide +kernel
theorem dX5_readBar_18 : decode cX5_readBar 18 = .ok (.aload_n 1, 1) := by decide +kernel
theorem dX5_readBar_19 : decode cX5_readBar 19 = .ok (.getfield 38, 3) := by decide +kernel
theorem dX5_readBar_22 : decode cX5_readBar 22 = .ok (.bipush 8, 2) := by decide +kernel
theorem dX5_readBar_24 : decode cX5_readBar 24 = .ok (.if_icmp .lt 5, 3) := by decide +kernel
theorem dX5_readBar_27 : decode cX5_readBar 27 = .ok (.iconst 3, 1) := by decide +kernel
theorem dX5_readBar_28 : decode cX5_readBar 28 = .ok (.ireturn, 1) := by decide +kernel
theorem dX5_readBar_29 : decode cX5_readBar 29 = .ok (.aload_n 0, 1) := by decide +kernel
theorem dX5_readBar_30 : decode cX5_readBar 30 = .ok (.dup, 1) := by decide +kernel
theorem dX5_readBar_31 : decode cX5_readBar 31 = .ok (.getfield 24, 3) := by decide +kernel
theorem dX5_readBar_34 : decode cX5_readBar 34 = .ok (.iconst 1, 1) := by decide +kernel
theorem dX5_readBar_35 : decode cX5_readBar 35 = .ok (.iadd, 1) := by decide +kernel
theorem dX5_readBar_36 : decode cX5_readBar 36 = .ok (.putfield 24, 3) := by decide +kernel
theorem dX5_readBar_39 : decode cX5_readBar 39 = .ok (.aload_n 0, 1) := by decide +kernel
theorem dX5_readBar_40 : decode cX5_readBar 40 = .ok (.invokevirtual 41, 3) := by decide +kernel
theorem dX5_readBar_43 : decode cX5_readBar 43 = .ok (.istore_n 3, 1) := by decide +kernel
theorem dX5_readBar_44 : decode cX5_readBar 44 = .ok (.iload_n 3, 1) := by decide +kernel
theorem dX5_readBar_45 : decode cX5_readBar 45 = .ok (.iconst 1, 1) := by decide +kernel
theorem dX5_readBar_46 : decode cX5_readBar 46 = .ok (.if_icmp .lt 8, 3) := by decide +kernel
theorem dX5_readBar_49 : decode cX5_readBar 49 = .ok (.iload_n 3, 1) := by decide +kernel
theorem dX5_readBar_50 : decode cX5_readBar 50 = .ok (.iconst 2, 1) := by decide +kernel
theorem dX5_readBar_51 : decode cX5_readBar 51 = .ok (.if_icmp .le 5, 3) := by decide +kernel
theorem dX5_readBar_54 : decode cX5_readBar 54 = .ok (.iconst 1, 1) := by decide +kernel
theorem dX5_readBar_55 : decode cX5_readBar 55 = .ok (.ireturn, 1) := by decide +kernel
theorem dX5_readBar_56 : decode cX5_readBar 56 = .ok (.aload_n 0, 1) := by decide +kernel
theorem dX5_readBar_57 : decode cX5_readBar 57 = .ok (.iload_n 3, 1) := by decide +kernel
theorem dX5_readBar_58 : decode cX5_readBar 58 = .ok (.invokevirtual 45, 3) := by decide +kernel
theorem dX5_readBar_61 : decode cX5_readBar 61 = .ok (.istore 4, 2) := by decide +kernel
theorem dX5_readBar_63 : decode cX5_readBar 63 = .ok (.iload 4, 2) := by decide +kernel
theorem dX5_readBar_65 : decode cX5_readBar 65 = .ok (.iconst 1, 1) := by decide +kernel
theorem dX5_readBar_66 : decode cX5_readBar 66 = .ok (.iconst 4, 1) := by decide +kernel
theorem dX5_readBar_67 : decode cX5_readBar 67 = .ok (.invokestatic 48, 3) := by decide +kernel
theorem dX5_readBar_70 : decode cX5_readBar 70 = .ok (.ifCond .ne 5, 3) := by decide +kernel
theorem dX5_readBar_73 : decode cX5_readBar 73 = .ok (.iconst 2, 1) := by decide +kernel
theorem dX5_readBar_74 : decode cX5_readBar 74 = .ok (.ireturn, 1) := by decide +kernel
theorem dX5_readBar_75 : decode cX5_readBar 75 = .ok (.aload_n 0, 1) := by decide +kernel
theorem dX5_readBar_76 : decode cX5_readBar 76 = .ok (.dup, 1) := by decide +kernel
theorem dX5_readBar_77 : decode cX5_readBar 77 = .ok (.getfield 24, 3) := by decide +kernel
theorem dX5_readBar_80 : decode cX5_readBar 80 = .ok (.iload_n 3, 1) := by decide +kernel
theorem dX5_readBar_81 : decode cX5_readBar 81 = .ok (.iadd, 1) := by decide +kernel
theorem dX5_readBar_82 : decode cX5_readBar 82 = .ok (.putfield 24, 3) := by decide +kernel
theorem dX5_readBar_85 : decode cX5_readBar 85 = .ok (.aload_n 0, 1) := by decide +kernel
theorem dX5_readBar_86 : decode cX5_readBar 86 = .ok (.aload_n 0, 1) := by decide +kernel
theorem dX5_readBar_87 : decode cX5_readBar 87 = .ok (.getfield 24, 3) := by decide +kernel
theorem dX5_readBar_90 : decode cX5_readBar 90 = .ok (.invokevirtual 31, 3) := by decide +kernel
theorem dX5_readBar_93 : decode cX5_readBar 93 = .ok (.bipush 59, 2) := by decide +kernel
theorem dX5_readBar_95 : decode cX5_readBar 95 = .ok (.if_icmp .eq 5, 3) := by decide +kernel
theorem dX5_readBar_98 : decode cX5_readBar 98 = .ok (.iconst 1, 1) := by decide +kernel
theorem dX5_readBar_99 : decode cX5_readBar 99 = .ok (.ireturn, 1) := by decide +kernel
theorem dX5_readBar_100 : decode cX5_readBar 100 = .ok (.aload_n 0, 1) := by decide +kernel
theorem dX5_readBar_101 : decode cX5_readBar 101 = .ok (.dup, 1) := by decide +kernel
theorem dX5_readBar_102 : decode cX5_readBar 102 = .ok (.getfield 24, 3) := by decide +kernel
theorem dX5_readBar_105 : decode cX5_readBar 105 = .ok (.iconst 1, 1) := by decide +kernel
theorem dX5_readBar_106 : decode cX5_readBar 106 = .ok (.iadd, 1) := by decide +kernel
theorem dX5_readBar_107 : decode cX5_readBar 107 = .ok (.putfield 24, 3) := by decide +kernel
theorem dX5_readBar_110 : decode cX5_readBar 110 = .ok (.aload_n 1, 1) := by decide +kernel
theorem dX5_readBar_111 : decode cX5_readBar 111 = .ok (.iload_n 2, 1) := by decide +kernel
theorem dX5_readBar_112 : decode cX5_readBar 112 = .ok (.iload 4, 2) := by decide +kernel
theorem dX5_readBar_114 : decode cX5_readBar 114 = .ok (.invokevirtual 52, 3) := by decide +kernel
theorem dX5_readBar_117 : decode cX5_readBar 117 = .ok (.iconst 0, 1) := by decide +kernel
theorem dX5_readBar_118 : decode cX5_readBar 118 = .ok (.ireturn, 1) := by decide +kernel
theorem dX5_byteAt_0 : decode cX5_byteAt 0 = .ok (.iload_n 1, 1) := by decide +kernel
theorem dX5_byteAt_1 : decode cX5_byteAt 1 = .ok (.iconst 0, 1) := by decide +kernel
theorem dX5_byteAt_2 : decode cX5_byteAt 2 = .ok (.aload_n 0, 1) := by decide +kernel
theorem dX5_byteAt_3 : decode cX5_byteAt 3 = .ok (.getfield 15, 3) := by decide +kernel
theorem dX5_byteAt_6 : decode cX5_byteAt 6 = .ok (.iconst 1, 1) := by decide +kernel
theorem dX5_byteAt_7 : decode cX5_byteAt 7 = .ok (.isub, 1) := by decide +kernel
theorem dX5_byteAt_8 : decode cX5_byteAt 8 = .ok (.invokestatic 48, 3) := by decide +kernel
theorem dX5_byteAt_11 : decode cX5_byteAt 11 = .ok (.ifCond .eq 12, 3) := by decide +kernel
theorem dX5_byteAt_14 : decode cX5_byteAt 14 = .ok (.aload_n 0, 1) := by decide +kernel
theorem dX5_byteAt_15 : decode cX5_byteAt 15 = .ok (.getfield 9, 3) := by decide +kernel
theorem dX5_byteAt_18 : decode cX5_byteAt 18 = .ok (.iload_n 1, 1) := by decide +kernel
theorem dX5_byteAt_19 : decode cX5_byteAt 19 = .ok (.iaload, 1) := by decide +kernel
theorem dX5_byteAt_20 : decode cX5_byteAt 20 = .ok (.goto 4, 3) := by decide +kernel
theorem dX5_byteAt_23 : decode cX5_byteAt 23 = .ok (.iconst (-1), 1) := by decide +kernel
theorem dX5_byteAt_24 : decode cX5_byteAt 24 = .ok (.ireturn, 1) := by decide +kernel
theorem dX5_figuresHere_0 : decode cX5_figuresHere 0 = .ok (.iconst 0, 1) := by decide +kernel
theorem dX5_figuresHere_1 : decode cX5_figuresHere 1 = .ok (.istore_n 1, 1) := by decide +kernel
theorem dX5_figuresHere_2 : decode cX5_figuresHere 2 = .ok (.iload_n 1, 1) := by decide +kernel
theorem dX5_figuresHere_3 : decode cX5_figuresHere 3 = .ok (.bipush 60, 2) := by decide +kernel
theorem dX5_figuresHere_5 : decode cX5_figuresHere 5 = .ok (.if_icmp .ge 29, 3) := by decide +kernel
theorem dX5_figuresHere_8 : decode cX5_figuresHere 8 = .ok (.aload_n 0, 1) := by decide +kernel
theorem dX5_figuresHere_9 : decode cX5_figuresHere 9 = .ok (.aload_n 0, 1) := by decide +kernel
theorem dX5_figuresHere_10 : decode cX5_figuresHere 10 = .ok (.getfield 24, 3) := by decide +kernel
theorem dX5_figuresHere_13 : decode cX5_figuresHere 13 = .ok (.iload_n 1, 1) := by decide +kernel
theorem dX5_figuresHere_14 : decode cX5_figuresHere 14 = .ok (.iadd, 1) := by decide +kernel
theorem dX5_figuresHere_15 : decode cX5_figuresHere 15 = .ok (.invokevirtual 31, 3) := by decide +kernel
theorem dX5_figuresHere_18 : decode cX5_figuresHere 18 = .ok (.bipush 48, 2) := by decide +kernel
theorem dX5_figuresHere_20 : decode cX5_figuresHere 20 = .ok (.bipush 57, 2) := by decide +kernel
theorem dX5_figuresHere_22 : decode cX5_figuresHere 22 = .ok (.invokestatic 48, 3) := by decide +kernel
theorem dX5_figuresHere_25 : decode cX5_figuresHere 25 = .ok (.ifCond .eq 9, 3) := by decide +kernel
theorem dX5_figuresHere_28 : decode cX5_figuresHere 28 = .ok (.iinc 1 1, 3) := by decide +kernel
theorem dX5_figuresHere_31 : decode cX5_figuresHere 31 = .ok (.goto (-29), 3) := by decide +kernel
theorem dX5_figuresHere_34 : decode cX5_figuresHere 34 = .ok (.iload_n 1, 1) := by decide +kernel
theorem dX5_figuresHere_35 : decode cX5_figuresHere 35 = .ok (.ireturn, 1) := by decide +kernel
theorem dX5_numberHere_0 : decode cX5_numberHere 0 = .ok (.iconst 0, 1) := by decide +kernel
theorem dX5_numberHere_1 : decode cX5_numberHere 1 = .ok (.istore_n 2, 1) := by decide +kernel
theorem dX5_numberHere_2 : decode cX5_numberHere 2 = .ok (.iconst 0, 1) := by decide +kernel
theorem dX5_numberHere_3 : decode cX5_numberHere 3 = .ok (.istore_n 3, 1) := by decide +kernel
theorem dX5_numberHere_4 : decode cX5_numberHere 4 = .ok (.iload_n 3, 1) := by decide +kernel
theorem dX5_numberHere_5 : decode cX5_numberHere 5 = .ok (.iload_n 1, 1) := by decide +kernel
theorem dX5_numberHere_6 : decode cX5_numberHere 6 = .ok (.if_icmp .ge 28, 3) := by decide +kernel
theorem dX5_numberHere_9 : decode cX5_numberHere 9 = .ok (.iload_n 2, 1) := by decide +kernel
theorem dX5_numberHere_10 : decode cX5_numberHere 10 = .ok (.bipush 10, 2) := by decide +kernel
theorem dX5_numberHere_12 : decode cX5_numberHere 12 = .ok (.imul, 1) := by decide +kernel
theorem dX5_numberHere_13 : decode cX5_numberHere 13 = .ok (.aload_n 0, 1) := by decide +kernel
theorem dX5_numberHere_14 : decode cX5_numberHere 14 = .ok (.aload_n 0, 1) := by decide +kernel
theorem dX5_numberHere_15 : decode cX5_numberHere 15 = .ok (.getfield 24, 3) := by decide +kernel
theorem dX5_numberHere_18 : decode cX5_numberHere 18 = .ok (.iload_n 3, 1) := by decide +kernel
theorem dX5_numberHere_19 : decode cX5_numberHere 19 = .ok (.iadd, 1) := by decide +kernel
theorem dX5_numberHere_20 : decode cX5_numberHere 20 = .ok (.invokevirtual 31, 3) := by decide +kernel
theorem dX5_numberHere_23 : decode cX5_numberHere 23 = .ok (.iadd, 1) := by decide +kernel
theorem dX5_numberHere_24 : decode cX5_numberHere 24 = .ok (.bipush 48, 2) := by decide +kernel
theorem dX5_numberHere_26 : decode cX5_numberHere 26 = .ok (.isub, 1) := by decide +kernel
theorem dX5_numberHere_27 : decode cX5_numberHere 27 = .ok (.istore_n 2, 1) := by decide +kernel
theorem dX5_numberHere_28 : decode cX5_numberHere 28 = .ok (.iinc 3 1, 3) := by decide +kernel
theorem dX5_numberHere_31 : decode cX5_numberHere 31 = .ok (.goto (-27), 3) := by decide +kernel
theorem dX5_numberHere_34 : decode cX5_numberHere 34 = .ok (.iload_n 2, 1) := by decide +kernel
theorem dX5_numberHere_35 : decode cX5_numberHere 35 = .ok (.ireturn, 1) := by decide +kernel
theorem dX5_sortOf_0 : decode cX5_sortOf 0 = .ok (.iload_n 0, 1) := by decide +kernel
theorem dX5_sortOf_1 : decode cX5_sortOf 1 = .ok (.lookupswitch 61 #[(98, 59), (100, 57), (104, 53), (112, 51), (115, 55)], 51) := by decide +kernel
theorem dX5_sortOf_52 : decode cX5_sortOf 52 = .ok (.iconst 1, 1) := by decide +kernel
theorem dX5_sortOf_53 : decode cX5_sortOf 53 = .ok (.ireturn, 1) := by decide +kernel
theorem dX5_sortOf_54 : decode cX5_sortOf 54 = .ok (.iconst 2, 1) := by decide +kernel
theorem dX5_sortOf_55 : decode cX5_sortOf 55 = .ok (.ireturn, 1) := by decide +kernel
theorem dX5_sortOf_56 : decode cX5_sortOf 56 = .ok (.iconst 3, 1) := by decide +kernel
theorem dX5_sortOf_57 : decode cX5_sortOf 57 = .ok (.ireturn, 1) := by decide +kernel
theorem dX5_sortOf_58 : decode cX5_sortOf 58 = .ok (.iconst 4, 1) := by decide +kernel
theorem dX5_sortOf_59 : decode cX5_sortOf 59 = .ok (.ireturn, 1) := by decide +kernel
theorem dX5_sortOf_60 : decode cX5_sortOf 60 = .ok (.iconst 5, 1) := by decide +kernel
theorem dX5_sortOf_61 : decode cX5_sortOf 61 = .ok (.ireturn, 1) := by decide +kernel
theorem dX5_sortOf_62 : decode cX5_sortOf 62 = .ok (.iconst 0, 1) := by decide +kernel
theorem dX5_sortOf_63 : decode cX5_sortOf 63 = .ok (.ireturn, 1) := by decide +kernel
