theorem dL_cell_0 : decode bL_cell 0 = .ok (.iload_n 1, 1) := by decide +kernel
theorem dL_cell_1 : decode bL_cell 1 = .ok (.aload_n 0, 1) := by decide +kernel
theorem dL_cell_2 : decode bL_cell 2 = .ok (.arraylength, 1) := by decide +kernel
theorem dL_cell_3 : decode bL_cell 3 = .ok (.if_icmp .ge 9, 3) := by decide +kernel
theorem dL_cell_6 : decode bL_cell 6 = .ok (.aload_n 0, 1) := by decide +kernel
theorem dL_cell_7 : decode bL_cell 7 = .ok (.iload_n 1, 1) := by decide +kernel
theorem dL_cell_8 : decode bL_cell 8 = .ok (.iaload, 1) := by decide +kernel
theorem dL_cell_9 : decode bL_cell 9 = .ok (.goto 4, 3) := by decide +kernel
theorem dL_cell_12 : decode bL_cell 12 = .ok (.iconst 0, 1) := by decide +kernel
theorem dL_cell_13 : decode bL_cell 13 = .ok (.ireturn, 1) := by decide +kernel
theorem dL_make_0 : decode bL_make 0 = .ok (.aload_n 3, 1) := by decide +kernel
theorem dL_make_1 : decode bL_make 1 = .ok (.iconst 0, 1) := by decide +kernel
theorem dL_make_2 : decode bL_make 2 = .ok (.aload_n 0, 1) := by decide +kernel
theorem dL_make_3 : decode bL_make 3 = .ok (.iload_n 1, 1) := by decide +kernel
theorem dL_make_4 : decode bL_make 4 = .ok (.iload_n 2, 1) := by decide +kernel
theorem dL_make_5 : decode bL_make 5 = .ok (.invokevirtual 7, 3) := by decide +kernel
theorem dL_make_8 : decode bL_make 8 = .ok (.i2l, 1) := by decide +kernel
theorem dL_make_9 : decode bL_make 9 = .ok (.lastore, 1) := by decide +kernel
theorem dL_make_10 : decode bL_make 10 = .ok (.goto 15, 3) := by decide +kernel
theorem dL_make_13 : decode bL_make 13 = .ok (.astore 4, 2) := by decide +kernel
theorem dL_make_15 : decode bL_make 15 = .ok (.iconst 1, 1) := by decide +kernel
theorem dL_make_16 : decode bL_make 16 = .ok (.ireturn, 1) := by decide +kernel
theorem dL_make_17 : decode bL_make 17 = .ok (.astore 4, 2) := by decide +kernel
theorem dL_make_19 : decode bL_make 19 = .ok (.iconst 2, 1) := by decide +kernel
theorem dL_make_20 : decode bL_make 20 = .ok (.ireturn, 1) := by decide +kernel
theorem dL_make_21 : decode bL_make 21 = .ok (.astore 4, 2) := by decide +kernel
theorem dL_make_23 : decode bL_make 23 = .ok (.iconst 3, 1) := by decide +kernel
theorem dL_make_24 : decode bL_make 24 = .ok (.ireturn, 1) := by decide +kernel
theorem dL_make_25 : decode bL_make 25 = .ok (.iconst 0, 1) := by decide +kernel
theorem dL_make_26 : decode bL_make 26 = .ok (.ireturn, 1) := by decide +kernel
theorem dL_tick_0 : decode bL_tick 0 = .ok (.aload_n 2, 1) := by decide +kernel
theorem dL_tick_1 : decode bL_tick 1 = .ok (.iconst 0, 1) := by decide +kernel
theorem dL_tick_2 : decode bL_tick 2 = .ok (.aload_n 0, 1) := by decide +kernel
theorem dL_tick_3 : decode bL_tick 3 = .ok (.iload_n 1, 1) := by decide +kernel
theorem dL_tick_4 : decode bL_tick 4 = .ok (.invokevirtual 19, 3) := by decide +kernel
theorem dL_tick_7 : decode bL_tick 7 = .ok (.i2l, 1) := by decide +kernel
theorem dL_tick_8 : decode bL_tick 8 = .ok (.lastore, 1) := by decide +kernel
theorem dL_tick_9 : decode bL_tick 9 = .ok (.goto 9, 3) := by decide +kernel
theorem dL_tick_12 : decode bL_tick 12 = .ok (.astore_n 3, 1) := by decide +kernel
theorem dL_tick_13 : decode bL_tick 13 = .ok (.iconst 1, 1) := by decide +kernel
theorem dL_tick_14 : decode bL_tick 14 = .ok (.ireturn, 1) := by decide +kernel
theorem dL_tick_15 : decode bL_tick 15 = .ok (.astore_n 3, 1) := by decide +kernel
theorem dL_tick_16 : decode bL_tick 16 = .ok (.iconst 2, 1) := by decide +kernel
theorem dL_tick_17 : decode bL_tick 17 = .ok (.ireturn, 1) := by decide +kernel
theorem dL_tick_18 : decode bL_tick 18 = .ok (.iconst 0, 1) := by decide +kernel
theorem dL_tick_19 : decode bL_tick 19 = .ok (.ireturn, 1) := by decide +kernel
theorem dL_deliver_0 : decode bL_deliver 0 = .ok (.aload_n 2, 1) := by decide +kernel
theorem dL_deliver_1 : decode bL_deliver 1 = .ok (.iconst 0, 1) := by decide +kernel
theorem dL_deliver_2 : decode bL_deliver 2 = .ok (.aload_n 0, 1) := by decide +kernel
theorem dL_deliver_3 : decode bL_deliver 3 = .ok (.iload_n 1, 1) := by decide +kernel
theorem dL_deliver_4 : decode bL_deliver 4 = .ok (.invokevirtual 23, 3) := by decide +kernel
theorem dL_deliver_7 : decode bL_deliver 7 = .ok (.i2l, 1) := by decide +kernel
theorem dL_deliver_8 : decode bL_deliver 8 = .ok (.lastore, 1) := by decide +kernel
theorem dL_deliver_9 : decode bL_deliver 9 = .ok (.goto 6, 3) := by decide +kernel
theorem dL_deliver_12 : decode bL_deliver 12 = .ok (.astore_n 3, 1) := by decide +kernel
theorem dL_deliver_13 : decode bL_deliver 13 = .ok (.iconst 1, 1) := by decide +kernel
theorem dL_deliver_14 : decode bL_deliver 14 = .ok (.ireturn, 1) := by decide +kernel
theorem dL_deliver_15 : decode bL_deliver 15 = .ok (.iconst 0, 1) := by decide +kernel
theorem dL_deliver_16 : decode bL_deliver 16 = .ok (.ireturn, 1) := by decide +kernel
theorem dL_twice_0 : decode bL_twice 0 = .ok (.aload_n 2, 1) := by decide +kernel
theorem dL_twice_1 : decode bL_twice 1 = .ok (.iconst 0, 1) := by decide +kernel
theorem dL_twice_2 : decode bL_twice 2 = .ok (.aload_n 0, 1) := by decide +kernel
theorem dL_twice_3 : decode bL_twice 3 = .ok (.iload_n 1, 1) := by decide +kernel
theorem dL_twice_4 : decode bL_twice 4 = .ok (.invokevirtual 26, 3) := by decide +kernel
theorem dL_twice_7 : decode bL_twice 7 = .ok (.i2l, 1) := by decide +kernel
theorem dL_twice_8 : decode bL_twice 8 = .ok (.lastore, 1) := by decide +kernel
theorem dL_twice_9 : decode bL_twice 9 = .ok (.goto 6, 3) := by decide +kernel
theorem dL_twice_12 : decode bL_twice 12 = .ok (.astore_n 3, 1) := by decide +kernel
theorem dL_twice_13 : decode bL_twice 13 = .ok (.iconst 1, 1) := by decide +kernel
theorem dL_twice_14 : decode bL_twice 14 = .ok (.ireturn, 1) := by decide +kernel
theorem dL_twice_15 : decode bL_twice 15 = .ok (.iconst 0, 1) := by decide +kernel
theorem dL_twice_16 : decode bL_twice 16 = .ok (.ireturn, 1) := by decide +kernel
theorem dL_message_0 : decode bL_message 0 = .ok (.aload_n 3, 1) := by decide +kernel
theorem dL_message_1 : decode bL_message 1 = .ok (.iconst 0, 1) := by decide +kernel
theorem dL_message_2 : decode bL_message 2 = .ok (.aload_n 0, 1) := by decide +kernel
theorem dL_message_3 : decode bL_message 3 = .ok (.iload_n 1, 1) := by decide +kernel
theorem dL_message_4 : decode bL_message 4 = .ok (.iload_n 2, 1) := by decide +kernel
theorem dL_message_5 : decode bL_message 5 = .ok (.invokevirtual 29, 3) := by decide +kernel
theorem dL_message_8 : decode bL_message 8 = .ok (.i2l, 1) := by decide +kernel
theorem dL_message_9 : decode bL_message 9 = .ok (.lastore, 1) := by decide +kernel
theorem dL_message_10 : decode bL_message 10 = .ok (.goto 7, 3) := by decide +kernel
theorem dL_message_13 : decode bL_message 13 = .ok (.astore 4, 2) := by decide +kernel
theorem dL_message_15 : decode bL_message 15 = .ok (.iconst 1, 1) := by decide +kernel
theorem dL_message_16 : decode bL_message 16 = .ok (.ireturn, 1) := by decide +kernel
theorem dL_message_17 : decode bL_message 17 = .ok (.iconst 0, 1) := by decide +kernel
theorem dL_message_18 : decode bL_message 18 = .ok (.ireturn, 1) := by decide +kernel
theorem dL_clock_0 : decode bL_clock 0 = .ok (.aload_n 2, 1) := by decide +kernel
theorem dL_clock_1 : decode bL_clock 1 = .ok (.iconst 0, 1) := by decide +kernel
theorem dL_clock_2 : decode bL_clock 2 = .ok (.aload_n 0, 1) := by decide +kernel
theorem dL_clock_3 : decode bL_clock 3 = .ok (.iload_n 1, 1) := by decide +kernel
theorem dL_clock_4 : decode bL_clock 4 = .ok (.invokevirtual 32, 3) := by decide +kernel
theorem dL_clock_7 : decode bL_clock 7 = .ok (.lastore, 1) := by decide +kernel
theorem dL_clock_8 : decode bL_clock 8 = .ok (.goto 6, 3) := by decide +kernel
theorem dL_clock_11 : decode bL_clock 11 = .ok (.astore_n 3, 1) := by decide +kernel
theorem dL_clock_12 : decode bL_clock 12 = .ok (.iconst 1, 1) := by decide +kernel
theorem dL_clock_13 : decode bL_clock 13 = .ok (.ireturn, 1) := by decide +kernel
theorem dL_clock_14 : decode bL_clock 14 = .ok (.iconst 0, 1) := by decide +kernel
theorem dL_clock_15 : decode bL_clock 15 = .ok (.ireturn, 1) := by decide +kernel
theorem dL_lacks_0 : decode bL_lacks 0 = .ok (.aload_n 2, 1) := by decide +kernel
theorem dL_lacks_1 : decode bL_lacks 1 = .ok (.iconst 0, 1) := by decide +kernel
theorem dL_lacks_2 : decode bL_lacks 2 = .ok (.aload_n 0, 1) := by decide +kernel
theorem dL_lacks_3 : decode bL_lacks 3 = .ok (.iload_n 1, 1) := by decide +kernel
theorem dL_lacks_4 : decode bL_lacks 4 = .ok (.invokevirtual 36, 3) := by decide +kernel
theorem dL_lacks_7 : decode bL_lacks 7 = .ok (.i2l, 1) := by decide +kernel
theorem dL_lacks_8 : decode bL_lacks 8 = .ok (.lastore, 1) := by decide +kernel
theorem dL_lacks_9 : decode bL_lacks 9 = .ok (.goto 6, 3) := by decide +kernel
theorem dL_lacks_12 : decode bL_lacks 12 = .ok (.astore_n 3, 1) := by decide +kernel
theorem dL_lacks_13 : decode bL_lacks 13 = .ok (.iconst 1, 1) := by decide +kernel
theorem dL_lacks_14 : decode bL_lacks 14 = .ok (.ireturn, 1) := by decide +kernel
theorem dL_lacks_15 : decode bL_lacks 15 = .ok (.iconst 0, 1) := by decide +kernel
theorem dL_lacks_16 : decode bL_lacks 16 = .ok (.ireturn, 1) := by decide +kernel
theorem dL_law_0 : decode bL_law 0 = .ok (.new 8, 3) := by decide +kernel
theorem dL_law_3 : decode bL_law 3 = .ok (.dup, 1) := by decide +kernel
theorem dL_law_4 : decode bL_law 4 = .ok (.aload_n 0, 1) := by decide +kernel
theorem dL_law_5 : decode bL_law 5 = .ok (.iconst 0, 1) := by decide +kernel
theorem dL_law_6 : decode bL_law 6 = .ok (.invokestatic 39, 3) := by decide +kernel
theorem dL_law_9 : decode bL_law 9 = .ok (.aload_n 0, 1) := by decide +kernel
theorem dL_law_10 : decode bL_law 10 = .ok (.iconst 1, 1) := by decide +kernel
theorem dL_law_11 : decode bL_law 11 = .ok (.invokestatic 39, 3) := by decide +kernel
theorem dL_law_14 : decode bL_law 14 = .ok (.invokespecial 45, 3) := by decide +kernel
theorem dL_law_17 : decode bL_law 17 = .ok (.astore_n 1, 1) := by decide +kernel
theorem dL_law_18 : decode bL_law 18 = .ok (.new 48, 3) := by decide +kernel
theorem dL_law_21 : decode bL_law 21 = .ok (.dup, 1) := by decide +kernel
theorem dL_law_22 : decode bL_law 22 = .ok (.aload_n 0, 1) := by decide +kernel
theorem dL_law_23 : decode bL_law 23 = .ok (.iconst 0, 1) := by decide +kernel
theorem dL_law_24 : decode bL_law 24 = .ok (.invokestatic 39, 3) := by decide +kernel
theorem dL_law_27 : decode bL_law 27 = .ok (.aload_n 0, 1) := by decide +kernel
theorem dL_law_28 : decode bL_law 28 = .ok (.iconst 1, 1) := by decide +kernel
theorem dL_law_29 : decode bL_law 29 = .ok (.invokestatic 39, 3) := by decide +kernel
theorem dL_law_32 : decode bL_law 32 = .ok (.invokespecial 50, 3) := by decide +kernel
theorem dL_law_35 : decode bL_law 35 = .ok (.astore_n 2, 1) := by decide +kernel
theorem dL_law_36 : decode bL_law 36 = .ok (.iconst 1, 1) := by decide +kernel
theorem dL_law_37 : decode bL_law 37 = .ok (.newarray .long, 2) := by decide +kernel
theorem dL_law_39 : decode bL_law 39 = .ok (.astore_n 3, 1) := by decide +kernel
theorem dL_law_40 : decode bL_law 40 = .ok (.iconst 2, 1) := by decide +kernel
theorem dL_law_41 : decode bL_law 41 = .ok (.istore 4, 2) := by decide +kernel
theorem dL_law_43 : decode bL_law 43 = .ok (.iload 4, 2) := by decide +kernel
theorem dL_law_45 : decode bL_law 45 = .ok (.aload_n 0, 1) := by decide +kernel
theorem dL_law_46 : decode bL_law 46 = .ok (.arraylength, 1) := by decide +kernel
theorem dL_law_47 : decode bL_law 47 = .ok (.iconst 3, 1) := by decide +kernel
theorem dL_law_48 : decode bL_law 48 = .ok (.isub, 1) := by decide +kernel
theorem dL_law_49 : decode bL_law 49 = .ok (.if_icmp .gt 740, 3) := by decide +kernel
theorem dL_law_52 : decode bL_law 52 = .ok (.aload_n 0, 1) := by decide +kernel
theorem dL_law_53 : decode bL_law 53 = .ok (.iload 4, 2) := by decide +kernel
theorem dL_law_55 : decode bL_law 55 = .ok (.iaload, 1) := by decide +kernel
theorem dL_law_56 : decode bL_law 56 = .ok (.bipush 15, 2) := by decide +kernel
theorem dL_law_58 : decode bL_law 58 = .ok (.iand, 1) := by decide +kernel
theorem dL_law_59 : decode bL_law 59 = .ok (.tableswitch 724 0 13 #[69, 137, 193, 249, 274, 330, 383, 451, 488, 514, 569, 606, 643, 699], 69) := by decide +kernel
theorem dL_law_128 : decode bL_law 128 = .ok (.aload_n 1, 1) := by decide +kernel
theorem dL_law_129 : decode bL_law 129 = .ok (.aload_n 0, 1) := by decide +kernel
theorem dL_law_130 : decode bL_law 130 = .ok (.iload 4, 2) := by decide +kernel
theorem dL_law_132 : decode bL_law 132 = .ok (.iconst 1, 1) := by decide +kernel
theorem dL_law_133 : decode bL_law 133 = .ok (.iadd, 1) := by decide +kernel
theorem dL_law_134 : decode bL_law 134 = .ok (.iaload, 1) := by decide +kernel
theorem dL_law_135 : decode bL_law 135 = .ok (.aload_n 0, 1) := by decide +kernel
theorem dL_law_136 : decode bL_law 136 = .ok (.iload 4, 2) := by decide +kernel
theorem dL_law_138 : decode bL_law 138 = .ok (.iconst 2, 1) := by decide +kernel
theorem dL_law_139 : decode bL_law 139 = .ok (.iadd, 1) := by decide +kernel
theorem dL_law_140 : decode bL_law 140 = .ok (.iaload, 1) := by decide +kernel
theorem dL_law_141 : decode bL_law 141 = .ok (.aload_n 3, 1) := by decide +kernel
theorem dL_law_142 : decode bL_law 142 = .ok (.invokestatic 51, 3) := by decide +kernel
theorem dL_law_145 : decode bL_law 145 = .ok (.istore 5, 2) := by decide +kernel
theorem dL_law_147 : decode bL_law 147 = .ok (.aload_n 2, 1) := by decide +kernel
theorem dL_law_148 : decode bL_law 148 = .ok (.aload_n 0, 1) := by decide +kernel
theorem dL_law_149 : decode bL_law 149 = .ok (.iload 4, 2) := by decide +kernel
theorem dL_law_151 : decode bL_law 151 = .ok (.iconst 1, 1) := by decide +kernel
theorem dL_law_152 : decode bL_law 152 = .ok (.iadd, 1) := by decide +kernel
theorem dL_law_153 : decode bL_law 153 = .ok (.iaload, 1) := by decide +kernel
theorem dL_law_154 : decode bL_law 154 = .ok (.aload_n 0, 1) := by decide +kernel
theorem dL_law_155 : decode bL_law 155 = .ok (.iload 4, 2) := by decide +kernel
theorem dL_law_157 : decode bL_law 157 = .ok (.iconst 2, 1) := by decide +kernel
theorem dL_law_158 : decode bL_law 158 = .ok (.iadd, 1) := by decide +kernel
theorem dL_law_159 : decode bL_law 159 = .ok (.iaload, 1) := by decide +kernel
theorem dL_law_160 : decode bL_law 160 = .ok (.invokevirtual 54, 3) := by decide +kernel
theorem dL_law_163 : decode bL_law 163 = .ok (.istore 6, 2) := by decide +kernel
theorem dL_law_165 : decode bL_law 165 = .ok (.aload_n 2, 1) := by decide +kernel
theorem dL_law_166 : decode bL_law 166 = .ok (.invokevirtual 55, 3) := by decide +kernel
theorem dL_law_169 : decode bL_law 169 = .ok (.iload 5, 2) := by decide +kernel
theorem dL_law_171 : decode bL_law 171 = .ok (.if_icmp .eq 5, 3) := by decide +kernel
theorem dL_law_174 : decode bL_law 174 = .ok (.iconst 0, 1) := by decide +kernel
theorem dL_law_175 : decode bL_law 175 = .ok (.ireturn, 1) := by decide +kernel
theorem dL_law_176 : decode bL_law 176 = .ok (.iload 5, 2) := by decide +kernel
theorem dL_law_178 : decode bL_law 178 = .ok (.ifCond .ne 15, 3) := by decide +kernel
theorem dL_law_181 : decode bL_law 181 = .ok (.aload_n 3, 1) := by decide +kernel
theorem dL_law_182 : decode bL_law 182 = .ok (.iconst 0, 1) := by decide +kernel
theorem dL_law_183 : decode bL_law 183 = .ok (.laload, 1) := by decide +kernel
theorem dL_law_184 : decode bL_law 184 = .ok (.iload 6, 2) := by decide +kernel
theorem dL_law_186 : decode bL_law 186 = .ok (.i2l, 1) := by decide +kernel
theorem dL_law_187 : decode bL_law 187 = .ok (.lcmp, 1) := by decide +kernel
theorem dL_law_188 : decode bL_law 188 = .ok (.ifCond .eq 5, 3) := by decide +kernel
theorem dL_law_191 : decode bL_law 191 = .ok (.iconst 0, 1) := by decide +kernel
theorem dL_law_192 : decode bL_law 192 = .ok (.ireturn, 1) := by decide +kernel
theorem dL_law_193 : decode bL_law 193 = .ok (.goto 590, 3) := by decide +kernel
theorem dL_law_196 : decode bL_law 196 = .ok (.aload_n 1, 1) := by decide +kernel
theorem dL_law_197 : decode bL_law 197 = .ok (.aload_n 0, 1) := by decide +kernel
theorem dL_law_198 : decode bL_law 198 = .ok (.iload 4, 2) := by decide +kernel
theorem dL_law_200 : decode bL_law 200 = .ok (.iconst 1, 1) := by decide +kernel
theorem dL_law_201 : decode bL_law 201 = .ok (.iadd, 1) := by decide +kernel
theorem dL_law_202 : decode bL_law 202 = .ok (.iaload, 1) := by decide +kernel
theorem dL_law_203 : decode bL_law 203 = .ok (.aload_n 3, 1) := by decide +kernel
theorem dL_law_204 : decode bL_law 204 = .ok (.invokestatic 59, 3) := by decide +kernel
theorem dL_law_207 : decode bL_law 207 = .ok (.istore 5, 2) := by decide +kernel
theorem dL_law_209 : decode bL_law 209 = .ok (.aload_n 2, 1) := by decide +kernel
theorem dL_law_210 : decode bL_law 210 = .ok (.aload_n 0, 1) := by decide +kernel
theorem dL_law_211 : decode bL_law 211 = .ok (.iload 4, 2) := by decide +kernel
theorem dL_law_213 : decode bL_law 213 = .ok (.iconst 1, 1) := by decide +kernel
theorem dL_law_214 : decode bL_law 214 = .ok (.iadd, 1) := by decide +kernel
theorem dL_law_215 : decode bL_law 215 = .ok (.iaload, 1) := by decide +kernel
theorem dL_law_216 : decode bL_law 216 = .ok (.invokevirtual 62, 3) := by decide +kernel
theorem dL_law_219 : decode bL_law 219 = .ok (.istore 6, 2) := by decide +kernel
theorem dL_law_221 : decode bL_law 221 = .ok (.aload_n 2, 1) := by decide +kernel
theorem dL_law_222 : decode bL_law 222 = .ok (.invokevirtual 55, 3) := by decide +kernel
theorem dL_law_225 : decode bL_law 225 = .ok (.iload 5, 2) := by decide +kernel
theorem dL_law_227 : decode bL_law 227 = .ok (.if_icmp .eq 5, 3) := by decide +kernel
theorem dL_law_230 : decode bL_law 230 = .ok (.iconst 0, 1) := by decide +kernel
theorem dL_law_231 : decode bL_law 231 = .ok (.ireturn, 1) := by decide +kernel
theorem dL_law_232 : decode bL_law 232 = .ok (.iload 5, 2) := by decide +kernel
theorem dL_law_234 : decode bL_law 234 = .ok (.ifCond .ne 15, 3) := by decide +kernel
theorem dL_law_237 : decode bL_law 237 = .ok (.aload_n 3, 1) := by decide +kernel
theorem dL_law_238 : decode bL_law 238 = .ok (.iconst 0, 1) := by decide +kernel
theorem dL_law_239 : decode bL_law 239 = .ok (.laload, 1) := by decide +kernel
theorem dL_law_240 : decode bL_law 240 = .ok (.iload 6, 2) := by decide +kernel
theorem dL_law_242 : decode bL_law 242 = .ok (.i2l, 1) := by decide +kernel
theorem dL_law_243 : decode bL_law 243 = .ok (.lcmp, 1) := by decide +kernel
theorem dL_law_244 : decode bL_law 244 = .ok (.ifCond .eq 5, 3) := by decide +kernel
theorem dL_law_247 : decode bL_law 247 = .ok (.iconst 0, 1) := by decide +kernel
theorem dL_law_248 : decode bL_law 248 = .ok (.ireturn, 1) := by decide +kernel
theorem dL_law_249 : decode bL_law 249 = .ok (.goto 534, 3) := by decide +kernel
theorem dL_law_252 : decode bL_law 252 = .ok (.aload_n 1, 1) := by decide +kernel
theorem dL_law_253 : decode bL_law 253 = .ok (.aload_n 0, 1) := by decide +kernel
theorem dL_law_254 : decode bL_law 254 = .ok (.iload 4, 2) := by decide +kernel
theorem dL_law_256 : decode bL_law 256 = .ok (.iconst 1, 1) := by decide +kernel
theorem dL_law_257 : decode bL_law 257 = .ok (.iadd, 1) := by decide +kernel
theorem dL_law_258 : decode bL_law 258 = .ok (.iaload, 1) := by decide +kernel
theorem dL_law_259 : decode bL_law 259 = .ok (.aload_n 3, 1) := by decide +kernel
theorem dL_law_260 : decode bL_law 260 = .ok (.invokestatic 63, 3) := by decide +kernel
theorem dL_law_263 : decode bL_law 263 = .ok (.istore 5, 2) := by decide +kernel
theorem dL_law_265 : decode bL_law 265 = .ok (.aload_n 2, 1) := by decide +kernel
theorem dL_law_266 : decode bL_law 266 = .ok (.aload_n 0, 1) := by decide +kernel
theorem dL_law_267 : decode bL_law 267 = .ok (.iload 4, 2) := by decide +kernel
theorem dL_law_269 : decode bL_law 269 = .ok (.iconst 1, 1) := by decide +kernel
theorem dL_law_270 : decode bL_law 270 = .ok (.iadd, 1) := by decide +kernel
theorem dL_law_271 : decode bL_law 271 = .ok (.iaload, 1) := by decide +kernel
theorem dL_law_272 : decode bL_law 272 = .ok (.invokevirtual 65, 3) := by decide +kernel
theorem dL_law_275 : decode bL_law 275 = .ok (.istore 6, 2) := by decide +kernel
theorem dL_law_277 : decode bL_law 277 = .ok (.aload_n 2, 1) := by decide +kernel
theorem dL_law_278 : decode bL_law 278 = .ok (.invokevirtual 55, 3) := by decide +kernel
theorem dL_law_281 : decode bL_law 281 = .ok (.iload 5, 2) := by decide +kernel
theorem dL_law_283 : decode bL_law 283 = .ok (.if_icmp .eq 5, 3) := by decide +kernel
theorem dL_law_286 : decode bL_law 286 = .ok (.iconst 0, 1) := by decide +kernel
theorem dL_law_287 : decode bL_law 287 = .ok (.ireturn, 1) := by decide +kernel
theorem dL_law_288 : decode bL_law 288 = .ok (.iload 5, 2) := by decide +kernel
theorem dL_law_290 : decode bL_law 290 = .ok (.ifCond .ne 15, 3) := by decide +kernel
theorem dL_law_293 : decode bL_law 293 = .ok (.aload_n 3, 1) := by decide +kernel
theorem dL_law_294 : decode bL_law 294 = .ok (.iconst 0, 1) := by decide +kernel
theorem dL_law_295 : decode bL_law 295 = .ok (.laload, 1) := by decide +kernel
theorem dL_law_296 : decode bL_law 296 = .ok (.iload 6, 2) := by decide +kernel
theorem dL_law_298 : decode bL_law 298 = .ok (.i2l, 1) := by decide +kernel
theorem dL_law_299 : decode bL_law 299 = .ok (.lcmp, 1) := by decide +kernel
theorem dL_law_300 : decode bL_law 300 = .ok (.ifCond .eq 5, 3) := by decide +kernel
theorem dL_law_303 : decode bL_law 303 = .ok (.iconst 0, 1) := by decide +kernel
theorem dL_law_304 : decode bL_law 304 = .ok (.ireturn, 1) := by decide +kernel
theorem dL_law_305 : decode bL_law 305 = .ok (.goto 478, 3) := by decide +kernel
theorem dL_law_308 : decode bL_law 308 = .ok (.aload_n 1, 1) := by decide +kernel
theorem dL_law_309 : decode bL_law 309 = .ok (.aload_n 0, 1) := by decide +kernel
theorem dL_law_310 : decode bL_law 310 = .ok (.iload 4, 2) := by decide +kernel
theorem dL_law_312 : decode bL_law 312 = .ok (.iconst 1, 1) := by decide +kernel
theorem dL_law_313 : decode bL_law 313 = .ok (.iadd, 1) := by decide +kernel
theorem dL_law_314 : decode bL_law 314 = .ok (.iaload, 1) := by decide +kernel
theorem dL_law_315 : decode bL_law 315 = .ok (.invokevirtual 66, 3) := by decide +kernel
theorem dL_law_318 : decode bL_law 318 = .ok (.aload_n 2, 1) := by decide +kernel
theorem dL_law_319 : decode bL_law 319 = .ok (.aload_n 0, 1) := by decide +kernel
theorem dL_law_320 : decode bL_law 320 = .ok (.iload 4, 2) := by decide +kernel
theorem dL_law_322 : decode bL_law 322 = .ok (.iconst 1, 1) := by decide +kernel
theorem dL_law_323 : decode bL_law 323 = .ok (.iadd, 1) := by decide +kernel
theorem dL_law_324 : decode bL_law 324 = .ok (.iaload, 1) := by decide +kernel
theorem dL_law_325 : decode bL_law 325 = .ok (.invokevirtual 70, 3) := by decide +kernel
theorem dL_law_328 : decode bL_law 328 = .ok (.if_icmp .eq 455, 3) := by decide +kernel
theorem dL_law_331 : decode bL_law 331 = .ok (.iconst 0, 1) := by decide +kernel
theorem dL_law_332 : decode bL_law 332 = .ok (.ireturn, 1) := by decide +kernel
theorem dL_law_333 : decode bL_law 333 = .ok (.aload_n 1, 1) := by decide +kernel
theorem dL_law_334 : decode bL_law 334 = .ok (.aload_n 0, 1) := by decide +kernel
theorem dL_law_335 : decode bL_law 335 = .ok (.iload 4, 2) := by decide +kernel
theorem dL_law_337 : decode bL_law 337 = .ok (.iconst 1, 1) := by decide +kernel
theorem dL_law_338 : decode bL_law 338 = .ok (.iadd, 1) := by decide +kernel
theorem dL_law_339 : decode bL_law 339 = .ok (.iaload, 1) := by decide +kernel
theorem dL_law_340 : decode bL_law 340 = .ok (.aload_n 3, 1) := by decide +kernel
theorem dL_law_341 : decode bL_law 341 = .ok (.invokestatic 71, 3) := by decide +kernel
theorem dL_law_344 : decode bL_law 344 = .ok (.istore 5, 2) := by decide +kernel
theorem dL_law_346 : decode bL_law 346 = .ok (.aload_n 2, 1) := by decide +kernel
theorem dL_law_347 : decode bL_law 347 = .ok (.aload_n 0, 1) := by decide +kernel
theorem dL_law_348 : decode bL_law 348 = .ok (.iload 4, 2) := by decide +kernel
theorem dL_law_350 : decode bL_law 350 = .ok (.iconst 1, 1) := by decide +kernel
theorem dL_law_351 : decode bL_law 351 = .ok (.iadd, 1) := by decide +kernel
theorem dL_law_352 : decode bL_law 352 = .ok (.iaload, 1) := by decide +kernel
theorem dL_law_353 : decode bL_law 353 = .ok (.invokevirtual 73, 3) := by decide +kernel
theorem dL_law_356 : decode bL_law 356 = .ok (.istore 6, 2) := by decide +kernel
theorem dL_law_358 : decode bL_law 358 = .ok (.aload_n 2, 1) := by decide +kernel
theorem dL_law_359 : decode bL_law 359 = .ok (.invokevirtual 55, 3) := by decide +kernel
theorem dL_law_362 : decode bL_law 362 = .ok (.iload 5, 2) := by decide +kernel
theorem dL_law_364 : decode bL_law 364 = .ok (.if_icmp .eq 5, 3) := by decide +kernel
theorem dL_law_367 : decode bL_law 367 = .ok (.iconst 0, 1) := by decide +kernel
theorem dL_law_368 : decode bL_law 368 = .ok (.ireturn, 1) := by decide +kernel
theorem dL_law_369 : decode bL_law 369 = .ok (.iload 5, 2) := by decide +kernel
theorem dL_law_371 : decode bL_law 371 = .ok (.ifCond .ne 15, 3) := by decide +kernel
theorem dL_law_374 : decode bL_law 374 = .ok (.aload_n 3, 1) := by decide +kernel
theorem dL_law_375 : decode bL_law 375 = .ok (.iconst 0, 1) := by decide +kernel
theorem dL_law_376 : decode bL_law 376 = .ok (.laload, 1) := by decide +kernel
theorem dL_law_377 : decode bL_law 377 = .ok (.iload 6, 2) := by decide +kernel
theorem dL_law_379 : decode bL_law 379 = .ok (.i2l, 1) := by decide +kernel
theorem dL_law_380 : decode bL_law 380 = .ok (.lcmp, 1) := by decide +kernel
theorem dL_law_381 : decode bL_law 381 = .ok (.ifCond .eq 5, 3) := by decide +kernel
theorem dL_law_384 : decode bL_law 384 = .ok (.iconst 0, 1) := by decide +kernel
theorem dL_law_385 : decode bL_law 385 = .ok (.ireturn, 1) := by decide +kernel
theorem dL_law_386 : decode bL_law 386 = .ok (.goto 397, 3) := by decide +kernel
theorem dL_law_389 : decode bL_law 389 = .ok (.aload_n 1, 1) := by decide +kernel
theorem dL_law_390 : decode bL_law 390 = .ok (.aload_n 0, 1) := by decide +kernel
theorem dL_law_391 : decode bL_law 391 = .ok (.iload 4, 2) := by decide +kernel
theorem dL_law_393 : decode bL_law 393 = .ok (.iconst 1, 1) := by decide +kernel
theorem dL_law_394 : decode bL_law 394 = .ok (.iadd, 1) := by decide +kernel
theorem dL_law_395 : decode bL_law 395 = .ok (.iaload, 1) := by decide +kernel
theorem dL_law_396 : decode bL_law 396 = .ok (.aload_n 0, 1) := by decide +kernel
theorem dL_law_397 : decode bL_law 397 = .ok (.iload 4, 2) := by decide +kernel
theorem dL_law_399 : decode bL_law 399 = .ok (.iconst 2, 1) := by decide +kernel
theorem dL_law_400 : decode bL_law 400 = .ok (.iadd, 1) := by decide +kernel
theorem dL_law_401 : decode bL_law 401 = .ok (.iaload, 1) := by decide +kernel
theorem dL_law_402 : decode bL_law 402 = .ok (.ifCond .eq 7, 3) := by decide +kernel
theorem dL_law_405 : decode bL_law 405 = .ok (.iconst 1, 1) := by decide +kernel
theorem dL_law_406 : decode bL_law 406 = .ok (.goto 4, 3) := by decide +kernel
theorem dL_law_409 : decode bL_law 409 = .ok (.iconst 0, 1) := by decide +kernel
theorem dL_law_410 : decode bL_law 410 = .ok (.invokevirtual 74, 3) := by decide +kernel
theorem dL_law_413 : decode bL_law 413 = .ok (.aload_n 2, 1) := by decide +kernel
theorem dL_law_414 : decode bL_law 414 = .ok (.aload_n 0, 1) := by decide +kernel
theorem dL_law_415 : decode bL_law 415 = .ok (.iload 4, 2) := by decide +kernel
theorem dL_law_417 : decode bL_law 417 = .ok (.iconst 1, 1) := by decide +kernel
theorem dL_law_418 : decode bL_law 418 = .ok (.iadd, 1) := by decide +kernel
theorem dL_law_419 : decode bL_law 419 = .ok (.iaload, 1) := by decide +kernel
theorem dL_law_420 : decode bL_law 420 = .ok (.aload_n 0, 1) := by decide +kernel
theorem dL_law_421 : decode bL_law 421 = .ok (.iload 4, 2) := by decide +kernel
theorem dL_law_423 : decode bL_law 423 = .ok (.iconst 2, 1) := by decide +kernel
theorem dL_law_424 : decode bL_law 424 = .ok (.iadd, 1) := by decide +kernel
theorem dL_law_425 : decode bL_law 425 = .ok (.iaload, 1) := by decide +kernel
theorem dL_law_426 : decode bL_law 426 = .ok (.ifCond .eq 7, 3) := by decide +kernel
theorem dL_law_429 : decode bL_law 429 = .ok (.iconst 1, 1) := by decide +kernel
theorem dL_law_430 : decode bL_law 430 = .ok (.goto 4, 3) := by decide +kernel
theorem dL_law_433 : decode bL_law 433 = .ok (.iconst 0, 1) := by decide +kernel
theorem dL_law_434 : decode bL_law 434 = .ok (.invokevirtual 78, 3) := by decide +kernel
theorem dL_law_437 : decode bL_law 437 = .ok (.if_icmp .eq 346, 3) := by decide +kernel
theorem dL_law_440 : decode bL_law 440 = .ok (.iconst 0, 1) := by decide +kernel
theorem dL_law_441 : decode bL_law 441 = .ok (.ireturn, 1) := by decide +kernel
theorem dL_law_442 : decode bL_law 442 = .ok (.aload_n 1, 1) := by decide +kernel
theorem dL_law_443 : decode bL_law 443 = .ok (.aload_n 0, 1) := by decide +kernel
theorem dL_law_444 : decode bL_law 444 = .ok (.iload 4, 2) := by decide +kernel
theorem dL_law_446 : decode bL_law 446 = .ok (.iconst 1, 1) := by decide +kernel
theorem dL_law_447 : decode bL_law 447 = .ok (.iadd, 1) := by decide +kernel
theorem dL_law_448 : decode bL_law 448 = .ok (.iaload, 1) := by decide +kernel
theorem dL_law_449 : decode bL_law 449 = .ok (.aload_n 0, 1) := by decide +kernel
theorem dL_law_450 : decode bL_law 450 = .ok (.iload 4, 2) := by decide +kernel
theorem dL_law_452 : decode bL_law 452 = .ok (.iconst 2, 1) := by decide +kernel
theorem dL_law_453 : decode bL_law 453 = .ok (.iadd, 1) := by decide +kernel
theorem dL_law_454 : decode bL_law 454 = .ok (.iaload, 1) := by decide +kernel
theorem dL_law_455 : decode bL_law 455 = .ok (.aload_n 3, 1) := by decide +kernel
theorem dL_law_456 : decode bL_law 456 = .ok (.invokestatic 79, 3) := by decide +kernel
theorem dL_law_459 : decode bL_law 459 = .ok (.istore 5, 2) := by decide +kernel
theorem dL_law_461 : decode bL_law 461 = .ok (.aload_n 2, 1) := by decide +kernel
theorem dL_law_462 : decode bL_law 462 = .ok (.aload_n 0, 1) := by decide +kernel
theorem dL_law_463 : decode bL_law 463 = .ok (.iload 4, 2) := by decide +kernel
theorem dL_law_465 : decode bL_law 465 = .ok (.iconst 1, 1) := by decide +kernel
theorem dL_law_466 : decode bL_law 466 = .ok (.iadd, 1) := by decide +kernel
theorem dL_law_467 : decode bL_law 467 = .ok (.iaload, 1) := by decide +kernel
theorem dL_law_468 : decode bL_law 468 = .ok (.aload_n 0, 1) := by decide +kernel
theorem dL_law_469 : decode bL_law 469 = .ok (.iload 4, 2) := by decide +kernel
theorem dL_law_471 : decode bL_law 471 = .ok (.iconst 2, 1) := by decide +kernel
theorem dL_law_472 : decode bL_law 472 = .ok (.iadd, 1) := by decide +kernel
theorem dL_law_473 : decode bL_law 473 = .ok (.iaload, 1) := by decide +kernel
theorem dL_law_474 : decode bL_law 474 = .ok (.invokevirtual 81, 3) := by decide +kernel
theorem dL_law_477 : decode bL_law 477 = .ok (.istore 6, 2) := by decide +kernel
theorem dL_law_479 : decode bL_law 479 = .ok (.aload_n 2, 1) := by decide +kernel
theorem dL_law_480 : decode bL_law 480 = .ok (.invokevirtual 55, 3) := by decide +kernel
theorem dL_law_483 : decode bL_law 483 = .ok (.iload 5, 2) := by decide +kernel
theorem dL_law_485 : decode bL_law 485 = .ok (.if_icmp .eq 5, 3) := by decide +kernel
theorem dL_law_488 : decode bL_law 488 = .ok (.iconst 0, 1) := by decide +kernel
theorem dL_law_489 : decode bL_law 489 = .ok (.ireturn, 1) := by decide +kernel
theorem dL_law_490 : decode bL_law 490 = .ok (.iload 5, 2) := by decide +kernel
theorem dL_law_492 : decode bL_law 492 = .ok (.ifCond .ne 15, 3) := by decide +kernel
theorem dL_law_495 : decode bL_law 495 = .ok (.aload_n 3, 1) := by decide +kernel
theorem dL_law_496 : decode bL_law 496 = .ok (.iconst 0, 1) := by decide +kernel
theorem dL_law_497 : decode bL_law 497 = .ok (.laload, 1) := by decide +kernel
theorem dL_law_498 : decode bL_law 498 = .ok (.iload 6, 2) := by decide +kernel
theorem dL_law_500 : decode bL_law 500 = .ok (.i2l, 1) := by decide +kernel
theorem dL_law_501 : decode bL_law 501 = .ok (.lcmp, 1) := by decide +kernel
theorem dL_law_502 : decode bL_law 502 = .ok (.ifCond .eq 5, 3) := by decide +kernel
theorem dL_law_505 : decode bL_law 505 = .ok (.iconst 0, 1) := by decide +kernel
theorem dL_law_506 : decode bL_law 506 = .ok (.ireturn, 1) := by decide +kernel
theorem dL_law_507 : decode bL_law 507 = .ok (.goto 276, 3) := by decide +kernel
theorem dL_law_510 : decode bL_law 510 = .ok (.aload_n 1, 1) := by decide +kernel
theorem dL_law_511 : decode bL_law 511 = .ok (.aload_n 0, 1) := by decide +kernel
theorem dL_law_512 : decode bL_law 512 = .ok (.iload 4, 2) := by decide +kernel
theorem dL_law_514 : decode bL_law 514 = .ok (.iconst 1, 1) := by decide +kernel
theorem dL_law_515 : decode bL_law 515 = .ok (.iadd, 1) := by decide +kernel
theorem dL_law_516 : decode bL_law 516 = .ok (.iaload, 1) := by decide +kernel
theorem dL_law_517 : decode bL_law 517 = .ok (.aload_n 0, 1) := by decide +kernel
theorem dL_law_518 : decode bL_law 518 = .ok (.iload 4, 2) := by decide +kernel
theorem dL_law_520 : decode bL_law 520 = .ok (.iconst 2, 1) := by decide +kernel
theorem dL_law_521 : decode bL_law 521 = .ok (.iadd, 1) := by decide +kernel
theorem dL_law_522 : decode bL_law 522 = .ok (.iaload, 1) := by decide +kernel
theorem dL_law_523 : decode bL_law 523 = .ok (.invokevirtual 82, 3) := by decide +kernel
theorem dL_law_526 : decode bL_law 526 = .ok (.aload_n 2, 1) := by decide +kernel
theorem dL_law_527 : decode bL_law 527 = .ok (.aload_n 0, 1) := by decide +kernel
theorem dL_law_528 : decode bL_law 528 = .ok (.iload 4, 2) := by decide +kernel
theorem dL_law_530 : decode bL_law 530 = .ok (.iconst 1, 1) := by decide +kernel
theorem dL_law_531 : decode bL_law 531 = .ok (.iadd, 1) := by decide +kernel
theorem dL_law_532 : decode bL_law 532 = .ok (.iaload, 1) := by decide +kernel
theorem dL_law_533 : decode bL_law 533 = .ok (.aload_n 0, 1) := by decide +kernel
theorem dL_law_534 : decode bL_law 534 = .ok (.iload 4, 2) := by decide +kernel
theorem dL_law_536 : decode bL_law 536 = .ok (.iconst 2, 1) := by decide +kernel
theorem dL_law_537 : decode bL_law 537 = .ok (.iadd, 1) := by decide +kernel
theorem dL_law_538 : decode bL_law 538 = .ok (.iaload, 1) := by decide +kernel
theorem dL_law_539 : decode bL_law 539 = .ok (.invokevirtual 85, 3) := by decide +kernel
theorem dL_law_542 : decode bL_law 542 = .ok (.if_icmp .eq 241, 3) := by decide +kernel
theorem dL_law_545 : decode bL_law 545 = .ok (.iconst 0, 1) := by decide +kernel
theorem dL_law_546 : decode bL_law 546 = .ok (.ireturn, 1) := by decide +kernel
theorem dL_law_547 : decode bL_law 547 = .ok (.aload_n 1, 1) := by decide +kernel
theorem dL_law_548 : decode bL_law 548 = .ok (.aload_n 0, 1) := by decide +kernel
theorem dL_law_549 : decode bL_law 549 = .ok (.iload 4, 2) := by decide +kernel
theorem dL_law_551 : decode bL_law 551 = .ok (.iconst 1, 1) := by decide +kernel
theorem dL_law_552 : decode bL_law 552 = .ok (.iadd, 1) := by decide +kernel
theorem dL_law_553 : decode bL_law 553 = .ok (.iaload, 1) := by decide +kernel
theorem dL_law_554 : decode bL_law 554 = .ok (.invokevirtual 86, 3) := by decide +kernel
theorem dL_law_557 : decode bL_law 557 = .ok (.aload_n 2, 1) := by decide +kernel
theorem dL_law_558 : decode bL_law 558 = .ok (.aload_n 0, 1) := by decide +kernel
theorem dL_law_559 : decode bL_law 559 = .ok (.iload 4, 2) := by decide +kernel
theorem dL_law_561 : decode bL_law 561 = .ok (.iconst 1, 1) := by decide +kernel
theorem dL_law_562 : decode bL_law 562 = .ok (.iadd, 1) := by decide +kernel
theorem dL_law_563 : decode bL_law 563 = .ok (.iaload, 1) := by decide +kernel
theorem dL_law_564 : decode bL_law 564 = .ok (.invokevirtual 89, 3) := by decide +kernel
theorem dL_law_567 : decode bL_law 567 = .ok (.lcmp, 1) := by decide +kernel
theorem dL_law_568 : decode bL_law 568 = .ok (.ifCond .eq 215, 3) := by decide +kernel
theorem dL_law_571 : decode bL_law 571 = .ok (.iconst 0, 1) := by decide +kernel
theorem dL_law_572 : decode bL_law 572 = .ok (.ireturn, 1) := by decide +kernel
theorem dL_law_573 : decode bL_law 573 = .ok (.aload_n 1, 1) := by decide +kernel
theorem dL_law_574 : decode bL_law 574 = .ok (.aload_n 0, 1) := by decide +kernel
theorem dL_law_575 : decode bL_law 575 = .ok (.iload 4, 2) := by decide +kernel
theorem dL_law_577 : decode bL_law 577 = .ok (.iconst 1, 1) := by decide +kernel
theorem dL_law_578 : decode bL_law 578 = .ok (.iadd, 1) := by decide +kernel
theorem dL_law_579 : decode bL_law 579 = .ok (.iaload, 1) := by decide +kernel
theorem dL_law_580 : decode bL_law 580 = .ok (.aload_n 3, 1) := by decide +kernel
theorem dL_law_581 : decode bL_law 581 = .ok (.invokestatic 90, 3) := by decide +kernel
theorem dL_law_584 : decode bL_law 584 = .ok (.istore 5, 2) := by decide +kernel
theorem dL_law_586 : decode bL_law 586 = .ok (.aload_n 2, 1) := by decide +kernel
theorem dL_law_587 : decode bL_law 587 = .ok (.aload_n 0, 1) := by decide +kernel
theorem dL_law_588 : decode bL_law 588 = .ok (.iload 4, 2) := by decide +kernel
theorem dL_law_590 : decode bL_law 590 = .ok (.iconst 1, 1) := by decide +kernel
theorem dL_law_591 : decode bL_law 591 = .ok (.iadd, 1) := by decide +kernel
theorem dL_law_592 : decode bL_law 592 = .ok (.iaload, 1) := by decide +kernel
theorem dL_law_593 : decode bL_law 593 = .ok (.invokevirtual 92, 3) := by decide +kernel
theorem dL_law_596 : decode bL_law 596 = .ok (.lstore 6, 2) := by decide +kernel
theorem dL_law_598 : decode bL_law 598 = .ok (.aload_n 2, 1) := by decide +kernel
theorem dL_law_599 : decode bL_law 599 = .ok (.invokevirtual 55, 3) := by decide +kernel
theorem dL_law_602 : decode bL_law 602 = .ok (.iload 5, 2) := by decide +kernel
theorem dL_law_604 : decode bL_law 604 = .ok (.if_icmp .eq 5, 3) := by decide +kernel
theorem dL_law_607 : decode bL_law 607 = .ok (.iconst 0, 1) := by decide +kernel
theorem dL_law_608 : decode bL_law 608 = .ok (.ireturn, 1) := by decide +kernel
theorem dL_law_609 : decode bL_law 609 = .ok (.iload 5, 2) := by decide +kernel
theorem dL_law_611 : decode bL_law 611 = .ok (.ifCond .ne 14, 3) := by decide +kernel
theorem dL_law_614 : decode bL_law 614 = .ok (.aload_n 3, 1) := by decide +kernel
theorem dL_law_615 : decode bL_law 615 = .ok (.iconst 0, 1) := by decide +kernel
theorem dL_law_616 : decode bL_law 616 = .ok (.laload, 1) := by decide +kernel
theorem dL_law_617 : decode bL_law 617 = .ok (.lload 6, 2) := by decide +kernel
theorem dL_law_619 : decode bL_law 619 = .ok (.lcmp, 1) := by decide +kernel
theorem dL_law_620 : decode bL_law 620 = .ok (.ifCond .eq 5, 3) := by decide +kernel
theorem dL_law_623 : decode bL_law 623 = .ok (.iconst 0, 1) := by decide +kernel
theorem dL_law_624 : decode bL_law 624 = .ok (.ireturn, 1) := by decide +kernel
theorem dL_law_625 : decode bL_law 625 = .ok (.goto 158, 3) := by decide +kernel
theorem dL_law_628 : decode bL_law 628 = .ok (.aload_n 1, 1) := by decide +kernel
theorem dL_law_629 : decode bL_law 629 = .ok (.aload_n 0, 1) := by decide +kernel
theorem dL_law_630 : decode bL_law 630 = .ok (.iload 4, 2) := by decide +kernel
theorem dL_law_632 : decode bL_law 632 = .ok (.iconst 1, 1) := by decide +kernel
theorem dL_law_633 : decode bL_law 633 = .ok (.iadd, 1) := by decide +kernel
theorem dL_law_634 : decode bL_law 634 = .ok (.iaload, 1) := by decide +kernel
theorem dL_law_635 : decode bL_law 635 = .ok (.aload_n 0, 1) := by decide +kernel
theorem dL_law_636 : decode bL_law 636 = .ok (.iload 4, 2) := by decide +kernel
theorem dL_law_638 : decode bL_law 638 = .ok (.iconst 2, 1) := by decide +kernel
theorem dL_law_639 : decode bL_law 639 = .ok (.iadd, 1) := by decide +kernel
theorem dL_law_640 : decode bL_law 640 = .ok (.iaload, 1) := by decide +kernel
theorem dL_law_641 : decode bL_law 641 = .ok (.invokevirtual 93, 3) := by decide +kernel
theorem dL_law_644 : decode bL_law 644 = .ok (.aload_n 2, 1) := by decide +kernel
theorem dL_law_645 : decode bL_law 645 = .ok (.aload_n 0, 1) := by decide +kernel
theorem dL_law_646 : decode bL_law 646 = .ok (.iload 4, 2) := by decide +kernel
theorem dL_law_648 : decode bL_law 648 = .ok (.iconst 1, 1) := by decide +kernel
theorem dL_law_649 : decode bL_law 649 = .ok (.iadd, 1) := by decide +kernel
theorem dL_law_650 : decode bL_law 650 = .ok (.iaload, 1) := by decide +kernel
theorem dL_law_651 : decode bL_law 651 = .ok (.aload_n 0, 1) := by decide +kernel
theorem dL_law_652 : decode bL_law 652 = .ok (.iload 4, 2) := by decide +kernel
theorem dL_law_654 : decode bL_law 654 = .ok (.iconst 2, 1) := by decide +kernel
theorem dL_law_655 : decode bL_law 655 = .ok (.iadd, 1) := by decide +kernel
theorem dL_law_656 : decode bL_law 656 = .ok (.iaload, 1) := by decide +kernel
theorem dL_law_657 : decode bL_law 657 = .ok (.invokevirtual 96, 3) := by decide +kernel
theorem dL_law_660 : decode bL_law 660 = .ok (.if_icmp .eq 123, 3) := by decide +kernel
theorem dL_law_663 : decode bL_law 663 = .ok (.iconst 0, 1) := by decide +kernel
theorem dL_law_664 : decode bL_law 664 = .ok (.ireturn, 1) := by decide +kernel
theorem dL_law_665 : decode bL_law 665 = .ok (.aload_n 1, 1) := by decide +kernel
theorem dL_law_666 : decode bL_law 666 = .ok (.aload_n 0, 1) := by decide +kernel
theorem dL_law_667 : decode bL_law 667 = .ok (.iload 4, 2) := by decide +kernel
theorem dL_law_669 : decode bL_law 669 = .ok (.iconst 1, 1) := by decide +kernel
theorem dL_law_670 : decode bL_law 670 = .ok (.iadd, 1) := by decide +kernel
theorem dL_law_671 : decode bL_law 671 = .ok (.iaload, 1) := by decide +kernel
theorem dL_law_672 : decode bL_law 672 = .ok (.aload_n 0, 1) := by decide +kernel
theorem dL_law_673 : decode bL_law 673 = .ok (.iload 4, 2) := by decide +kernel
theorem dL_law_675 : decode bL_law 675 = .ok (.iconst 2, 1) := by decide +kernel
theorem dL_law_676 : decode bL_law 676 = .ok (.iadd, 1) := by decide +kernel
theorem dL_law_677 : decode bL_law 677 = .ok (.iaload, 1) := by decide +kernel
theorem dL_law_678 : decode bL_law 678 = .ok (.invokevirtual 97, 3) := by decide +kernel
theorem dL_law_681 : decode bL_law 681 = .ok (.aload_n 2, 1) := by decide +kernel
theorem dL_law_682 : decode bL_law 682 = .ok (.aload_n 0, 1) := by decide +kernel
theorem dL_law_683 : decode bL_law 683 = .ok (.iload 4, 2) := by decide +kernel
theorem dL_law_685 : decode bL_law 685 = .ok (.iconst 1, 1) := by decide +kernel
theorem dL_law_686 : decode bL_law 686 = .ok (.iadd, 1) := by decide +kernel
theorem dL_law_687 : decode bL_law 687 = .ok (.iaload, 1) := by decide +kernel
theorem dL_law_688 : decode bL_law 688 = .ok (.aload_n 0, 1) := by decide +kernel
theorem dL_law_689 : decode bL_law 689 = .ok (.iload 4, 2) := by decide +kernel
theorem dL_law_691 : decode bL_law 691 = .ok (.iconst 2, 1) := by decide +kernel
theorem dL_law_692 : decode bL_law 692 = .ok (.iadd, 1) := by decide +kernel
theorem dL_law_693 : decode bL_law 693 = .ok (.iaload, 1) := by decide +kernel
theorem dL_law_694 : decode bL_law 694 = .ok (.invokevirtual 100, 3) := by decide +kernel
theorem dL_law_697 : decode bL_law 697 = .ok (.if_icmp .eq 86, 3) := by decide +kernel
theorem dL_law_700 : decode bL_law 700 = .ok (.iconst 0, 1) := by decide +kernel
theorem dL_law_701 : decode bL_law 701 = .ok (.ireturn, 1) := by decide +kernel
theorem dL_law_702 : decode bL_law 702 = .ok (.aload_n 1, 1) := by decide +kernel
theorem dL_law_703 : decode bL_law 703 = .ok (.aload_n 0, 1) := by decide +kernel
theorem dL_law_704 : decode bL_law 704 = .ok (.iload 4, 2) := by decide +kernel
theorem dL_law_706 : decode bL_law 706 = .ok (.iconst 1, 1) := by decide +kernel
theorem dL_law_707 : decode bL_law 707 = .ok (.iadd, 1) := by decide +kernel
theorem dL_law_708 : decode bL_law 708 = .ok (.iaload, 1) := by decide +kernel
theorem dL_law_709 : decode bL_law 709 = .ok (.aload_n 3, 1) := by decide +kernel
theorem dL_law_710 : decode bL_law 710 = .ok (.invokestatic 101, 3) := by decide +kernel
theorem dL_law_713 : decode bL_law 713 = .ok (.istore 5, 2) := by decide +kernel
theorem dL_law_715 : decode bL_law 715 = .ok (.aload_n 2, 1) := by decide +kernel
theorem dL_law_716 : decode bL_law 716 = .ok (.aload_n 0, 1) := by decide +kernel
theorem dL_law_717 : decode bL_law 717 = .ok (.iload 4, 2) := by decide +kernel
theorem dL_law_719 : decode bL_law 719 = .ok (.iconst 1, 1) := by decide +kernel
theorem dL_law_720 : decode bL_law 720 = .ok (.iadd, 1) := by decide +kernel
theorem dL_law_721 : decode bL_law 721 = .ok (.iaload, 1) := by decide +kernel
theorem dL_law_722 : decode bL_law 722 = .ok (.invokevirtual 103, 3) := by decide +kernel
theorem dL_law_725 : decode bL_law 725 = .ok (.istore 6, 2) := by decide +kernel
theorem dL_law_727 : decode bL_law 727 = .ok (.aload_n 2, 1) := by decide +kernel
theorem dL_law_728 : decode bL_law 728 = .ok (.invokevirtual 55, 3) := by decide +kernel
theorem dL_law_731 : decode bL_law 731 = .ok (.iload 5, 2) := by decide +kernel
theorem dL_law_733 : decode bL_law 733 = .ok (.if_icmp .eq 5, 3) := by decide +kernel
theorem dL_law_736 : decode bL_law 736 = .ok (.iconst 0, 1) := by decide +kernel
theorem dL_law_737 : decode bL_law 737 = .ok (.ireturn, 1) := by decide +kernel
theorem dL_law_738 : decode bL_law 738 = .ok (.iload 5, 2) := by decide +kernel
theorem dL_law_740 : decode bL_law 740 = .ok (.ifCond .ne 15, 3) := by decide +kernel
theorem dL_law_743 : decode bL_law 743 = .ok (.aload_n 3, 1) := by decide +kernel
theorem dL_law_744 : decode bL_law 744 = .ok (.iconst 0, 1) := by decide +kernel
theorem dL_law_745 : decode bL_law 745 = .ok (.laload, 1) := by decide +kernel
theorem dL_law_746 : decode bL_law 746 = .ok (.iload 6, 2) := by decide +kernel
theorem dL_law_748 : decode bL_law 748 = .ok (.i2l, 1) := by decide +kernel
theorem dL_law_749 : decode bL_law 749 = .ok (.lcmp, 1) := by decide +kernel
theorem dL_law_750 : decode bL_law 750 = .ok (.ifCond .eq 5, 3) := by decide +kernel
theorem dL_law_753 : decode bL_law 753 = .ok (.iconst 0, 1) := by decide +kernel
theorem dL_law_754 : decode bL_law 754 = .ok (.ireturn, 1) := by decide +kernel
theorem dL_law_755 : decode bL_law 755 = .ok (.goto 28, 3) := by decide +kernel
theorem dL_law_758 : decode bL_law 758 = .ok (.aload_n 1, 1) := by decide +kernel
theorem dL_law_759 : decode bL_law 759 = .ok (.aload_n 0, 1) := by decide +kernel
theorem dL_law_760 : decode bL_law 760 = .ok (.iload 4, 2) := by decide +kernel
theorem dL_law_762 : decode bL_law 762 = .ok (.iconst 1, 1) := by decide +kernel
theorem dL_law_763 : decode bL_law 763 = .ok (.iadd, 1) := by decide +kernel
theorem dL_law_764 : decode bL_law 764 = .ok (.iaload, 1) := by decide +kernel
theorem dL_law_765 : decode bL_law 765 = .ok (.invokevirtual 104, 3) := by decide +kernel
theorem dL_law_768 : decode bL_law 768 = .ok (.aload_n 2, 1) := by decide +kernel
theorem dL_law_769 : decode bL_law 769 = .ok (.aload_n 0, 1) := by decide +kernel
theorem dL_law_770 : decode bL_law 770 = .ok (.iload 4, 2) := by decide +kernel
theorem dL_law_772 : decode bL_law 772 = .ok (.iconst 1, 1) := by decide +kernel
theorem dL_law_773 : decode bL_law 773 = .ok (.iadd, 1) := by decide +kernel
theorem dL_law_774 : decode bL_law 774 = .ok (.iaload, 1) := by decide +kernel
theorem dL_law_775 : decode bL_law 775 = .ok (.invokevirtual 107, 3) := by decide +kernel
theorem dL_law_778 : decode bL_law 778 = .ok (.if_icmp .eq 5, 3) := by decide +kernel
theorem dL_law_781 : decode bL_law 781 = .ok (.iconst 0, 1) := by decide +kernel
theorem dL_law_782 : decode bL_law 782 = .ok (.ireturn, 1) := by decide +kernel
theorem dL_law_783 : decode bL_law 783 = .ok (.iinc 4 3, 3) := by decide +kernel
theorem dL_law_786 : decode bL_law 786 = .ok (.goto (-743), 3) := by decide +kernel
theorem dL_law_789 : decode bL_law 789 = .ok (.iconst 1, 1) := by decide +kernel
theorem dL_law_790 : decode bL_law 790 = .ok (.ireturn, 1) := by decide +kernel
