theorem dX9_init_0 : decode cX9_init 0 = .ok (.aload_n 0, 1) := by decide +kernel
theorem dX9_init_1 : decode cX9_init 1 = .ok (.invokespecial 1, 3) := by decide +kernel
theorem dX9_init_4 : decode cX9_init 4 = .ok (.aload_n 0, 1) := by decide +kernel
theorem dX9_init_5 : decode cX9_init 5 = .ok (.iconst 4, 1) := by decide +kernel
theorem dX9_init_6 : decode cX9_init 6 = .ok (.newarray .int, 2) := by decide +kernel
theorem dX9_init_8 : decode cX9_init 8 = .ok (.putfield 7, 3) := by decide +kernel
theorem dX9_init_11 : decode cX9_init 11 = .ok (.aload_n 0, 1) := by decide +kernel
theorem dX9_init_12 : decode cX9_init 12 = .ok (.iconst 4, 1) := by decide +kernel
theorem dX9_init_13 : decode cX9_init 13 = .ok (.newarray .int, 2) := by decide +kernel
theorem dX9_init_15 : decode cX9_init 15 = .ok (.putfield 13, 3) := by decide +kernel
theorem dX9_init_18 : decode cX9_init 18 = .ok (.aload_n 0, 1) := by decide +kernel
theorem dX9_init_19 : decode cX9_init 19 = .ok (.sipush 160, 3) := by decide +kernel
theorem dX9_init_22 : decode cX9_init 22 = .ok (.newarray .boolean, 2) := by decide +kernel
theorem dX9_init_24 : decode cX9_init 24 = .ok (.putfield 16, 3) := by decide +kernel
theorem dX9_init_27 : decode cX9_init 27 = .ok (.aload_n 0, 1) := by decide +kernel
theorem dX9_init_28 : decode cX9_init 28 = .ok (.sipush 480, 3) := by decide +kernel
theorem dX9_init_31 : decode cX9_init 31 = .ok (.newarray .int, 2) := by decide +kernel
theorem dX9_init_33 : decode cX9_init 33 = .ok (.putfield 20, 3) := by decide +kernel
theorem dX9_init_36 : decode cX9_init 36 = .ok (.aload_n 0, 1) := by decide +kernel
theorem dX9_init_37 : decode cX9_init 37 = .ok (.bipush 12, 2) := by decide +kernel
theorem dX9_init_39 : decode cX9_init 39 = .ok (.newarray .boolean, 2) := by decide +kernel
theorem dX9_init_41 : decode cX9_init 41 = .ok (.putfield 23, 3) := by decide +kernel
theorem dX9_init_44 : decode cX9_init 44 = .ok (.aload_n 0, 1) := by decide +kernel
theorem dX9_init_45 : decode cX9_init 45 = .ok (.iconst 4, 1) := by decide +kernel
theorem dX9_init_46 : decode cX9_init 46 = .ok (.newarray .int, 2) := by decide +kernel
theorem dX9_init_48 : decode cX9_init 48 = .ok (.putfield 26, 3) := by decide +kernel
theorem dX9_init_51 : decode cX9_init 51 = .ok (.aload_n 0, 1) := by decide +kernel
theorem dX9_init_52 : decode cX9_init 52 = .ok (.bipush 12, 2) := by decide +kernel
theorem dX9_init_54 : decode cX9_init 54 = .ok (.newarray .int, 2) := by decide +kernel
theorem dX9_init_56 : decode cX9_init 56 = .ok (.putfield 29, 3) := by decide +kernel
theorem dX9_init_59 : decode cX9_init 59 = .ok (.aload_n 0, 1) := by decide +kernel
theorem dX9_init_60 : decode cX9_init 60 = .ok (.bipush 12, 2) := by decide +kernel
theorem dX9_init_62 : decode cX9_init 62 = .ok (.newarray .int, 2) := by decide +kernel
theorem dX9_init_64 : decode cX9_init 64 = .ok (.putfield 32, 3) := by decide +kernel
theorem dX9_init_67 : decode cX9_init 67 = .ok (.aload_n 0, 1) := by decide +kernel
theorem dX9_init_68 : decode cX9_init 68 = .ok (.bipush 12, 2) := by decide +kernel
theorem dX9_init_70 : decode cX9_init 70 = .ok (.newarray .int, 2) := by decide +kernel
theorem dX9_init_72 : decode cX9_init 72 = .ok (.putfield 35, 3) := by decide +kernel
theorem dX9_init_75 : decode cX9_init 75 = .ok (.aload_n 0, 1) := by decide +kernel
theorem dX9_init_76 : decode cX9_init 76 = .ok (.iconst 4, 1) := by decide +kernel
theorem dX9_init_77 : decode cX9_init 77 = .ok (.newarray .boolean, 2) := by decide +kernel
theorem dX9_init_79 : decode cX9_init 79 = .ok (.putfield 38, 3) := by decide +kernel
theorem dX9_init_82 : decode cX9_init 82 = .ok (.aload_n 0, 1) := by decide +kernel
theorem dX9_init_83 : decode cX9_init 83 = .ok (.iconst 1, 1) := by decide +kernel
theorem dX9_init_84 : decode cX9_init 84 = .ok (.putfield 41, 3) := by decide +kernel
theorem dX9_init_87 : decode cX9_init 87 = .ok (.aload_n 0, 1) := by decide +kernel
theorem dX9_init_88 : decode cX9_init 88 = .ok (.bipush 8, 2) := by decide +kernel
theorem dX9_init_90 : decode cX9_init 90 = .ok (.newarray .int, 2) := by decide +kernel
theorem dX9_init_92 : decode cX9_init 92 = .ok (.putfield 45, 3) := by decide +kernel
theorem dX9_init_95 : decode cX9_init 95 = .ok (.aload_n 0, 1) := by decide +kernel
theorem dX9_init_96 : decode cX9_init 96 = .ok (.bipush 8, 2) := by decide +kernel
theorem dX9_init_98 : decode cX9_init 98 = .ok (.newarray .boolean, 2) := by decide +kernel
theorem dX9_init_100 : decode cX9_init 100 = .ok (.putfield 48, 3) := by decide +kernel
theorem dX9_init_103 : decode cX9_init 103 = .ok (.aload_n 0, 1) := by decide +kernel
theorem dX9_init_104 : decode cX9_init 104 = .ok (.bipush 8, 2) := by decide +kernel
theorem dX9_init_106 : decode cX9_init 106 = .ok (.newarray .int, 2) := by decide +kernel
theorem dX9_init_108 : decode cX9_init 108 = .ok (.putfield 51, 3) := by decide +kernel
theorem dX9_init_111 : decode cX9_init 111 = .ok (.aload_n 0, 1) := by decide +kernel
theorem dX9_init_112 : decode cX9_init 112 = .ok (.bipush 24, 2) := by decide +kernel
theorem dX9_init_114 : decode cX9_init 114 = .ok (.newarray .int, 2) := by decide +kernel
theorem dX9_init_116 : decode cX9_init 116 = .ok (.putfield 54, 3) := by decide +kernel
theorem dX9_init_119 : decode cX9_init 119 = .ok (.aload_n 0, 1) := by decide +kernel
theorem dX9_init_120 : decode cX9_init 120 = .ok (.bipush 8, 2) := by decide +kernel
theorem dX9_init_122 : decode cX9_init 122 = .ok (.newarray .int, 2) := by decide +kernel
theorem dX9_init_124 : decode cX9_init 124 = .ok (.putfield 57, 3) := by decide +kernel
theorem dX9_init_127 : decode cX9_init 127 = .ok (.aload_n 0, 1) := by decide +kernel
theorem dX9_init_128 : decode cX9_init 128 = .ok (.bipush 48, 2) := by decide +kernel
theorem dX9_init_130 : decode cX9_init 130 = .ok (.newarray .int, 2) := by decide +kernel
theorem dX9_init_132 : decode cX9_init 132 = .ok (.putfield 60, 3) := by decide +kernel
theorem dX9_init_135 : decode cX9_init 135 = .ok (.aload_n 0, 1) := by decide +kernel
theorem dX9_init_136 : decode cX9_init 136 = .ok (.bipush 48, 2) := by decide +kernel
theorem dX9_init_138 : decode cX9_init 138 = .ok (.newarray .int, 2) := by decide +kernel
theorem dX9_init_140 : decode cX9_init 140 = .ok (.putfield 63, 3) := by decide +kernel
theorem dX9_init_143 : decode cX9_init 143 = .ok (.aload_n 0, 1) := by decide +kernel
theorem dX9_init_144 : decode cX9_init 144 = .ok (.bipush 48, 2) := by decide +kernel
theorem dX9_init_146 : decode cX9_init 146 = .ok (.newarray .int, 2) := by decide +kernel
theorem dX9_init_148 : decode cX9_init 148 = .ok (.putfield 66, 3) := by decide +kernel
theorem dX9_init_151 : decode cX9_init 151 = .ok (.aload_n 0, 1) := by decide +kernel
theorem dX9_init_152 : decode cX9_init 152 = .ok (.bipush 48, 2) := by decide +kernel
theorem dX9_init_154 : decode cX9_init 154 = .ok (.newarray .int, 2) := by decide +kernel
theorem dX9_init_156 : decode cX9_init 156 = .ok (.putfield 69, 3) := by decide +kernel
theorem dX9_init_159 : decode cX9_init 159 = .ok (.aload_n 0, 1) := by decide +kernel
theorem dX9_init_160 : decode cX9_init 160 = .ok (.bipush 48, 2) := by decide +kernel
theorem dX9_init_162 : decode cX9_init 162 = .ok (.newarray .int, 2) := by decide +kernel
theorem dX9_init_164 : decode cX9_init 164 = .ok (.putfield 72, 3) := by decide +kernel
theorem dX9_init_167 : decode cX9_init 167 = .ok (.aload_n 0, 1) := by decide +kernel
theorem dX9_init_168 : decode cX9_init 168 = .ok (.bipush 48, 2) := by decide +kernel
theorem dX9_init_170 : decode cX9_init 170 = .ok (.newarray .int, 2) := by decide +kernel
theorem dX9_init_172 : decode cX9_init 172 = .ok (.putfield 75, 3) := by decide +kernel
theorem dX9_init_175 : decode cX9_init 175 = .ok (.aload_n 0, 1) := by decide +kernel
theorem dX9_init_176 : decode cX9_init 176 = .ok (.bipush 8, 2) := by decide +kernel
theorem dX9_init_178 : decode cX9_init 178 = .ok (.newarray .int, 2) := by decide +kernel
theorem dX9_init_180 : decode cX9_init 180 = .ok (.putfield 78, 3) := by decide +kernel
theorem dX9_init_183 : decode cX9_init 183 = .ok (.aload_n 0, 1) := by decide +kernel
theorem dX9_init_184 : decode cX9_init 184 = .ok (.bipush 8, 2) := by decide +kernel
theorem dX9_init_186 : decode cX9_init 186 = .ok (.newarray .int, 2) := by decide +kernel
theorem dX9_init_188 : decode cX9_init 188 = .ok (.putfield 81, 3) := by decide +kernel
theorem dX9_init_191 : decode cX9_init 191 = .ok (.aload_n 0, 1) := by decide +kernel
theorem dX9_init_192 : decode cX9_init 192 = .ok (.bipush 8, 2) := by decide +kernel
theorem dX9_init_194 : decode cX9_init 194 = .ok (.newarray .int, 2) := by decide +kernel
theorem dX9_init_196 : decode cX9_init 196 = .ok (.putfield 84, 3) := by decide +kernel
theorem dX9_init_199 : decode cX9_init 199 = .ok (.aload_n 0, 1) := by decide +kernel
theorem dX9_init_200 : decode cX9_init 200 = .ok (.bipush 8, 2) := by decide +kernel
theorem dX9_init_202 : decode cX9_init 202 = .ok (.newarray .int, 2) := by decide +kernel
theorem dX9_init_204 : decode cX9_init 204 = .ok (.putfield 87, 3) := by decide +kernel
theorem dX9_init_207 : decode cX9_init 207 = .ok (.aload_n 0, 1) := by decide +kernel
theorem dX9_init_208 : decode cX9_init 208 = .ok (.bipush 8, 2) := by decide +kernel
theorem dX9_init_210 : decode cX9_init 210 = .ok (.newarray .int, 2) := by decide +kernel
theorem dX9_init_212 : decode cX9_init 212 = .ok (.putfield 90, 3) := by decide +kernel
theorem dX9_init_215 : decode cX9_init 215 = .ok (.aload_n 0, 1) := by decide +kernel
theorem dX9_init_216 : decode cX9_init 216 = .ok (.iconst 3, 1) := by decide +kernel
theorem dX9_init_217 : decode cX9_init 217 = .ok (.newarray .int, 2) := by decide +kernel
theorem dX9_init_219 : decode cX9_init 219 = .ok (.putfield 93, 3) := by decide +kernel
theorem dX9_init_222 : decode cX9_init 222 = .ok (.aload_n 0, 1) := by decide +kernel
theorem dX9_init_223 : decode cX9_init 223 = .ok (.iconst 3, 1) := by decide +kernel
theorem dX9_init_224 : decode cX9_init 224 = .ok (.newarray .int, 2) := by decide +kernel
theorem dX9_init_226 : decode cX9_init 226 = .ok (.putfield 96, 3) := by decide +kernel
theorem dX9_init_229 : decode cX9_init 229 = .ok (.aload_n 0, 1) := by decide +kernel
theorem dX9_init_230 : decode cX9_init 230 = .ok (.iconst 3, 1) := by decide +kernel
theorem dX9_init_231 : decode cX9_init 231 = .ok (.newarray .int, 2) := by decide +kernel
theorem dX9_init_233 : decode cX9_init 233 = .ok (.putfield 99, 3) := by decide +kernel
theorem dX9_init_236 : decode cX9_init 236 = .ok (.aload_n 0, 1) := by decide +kernel
theorem dX9_init_237 : decode cX9_init 237 = .ok (.iconst 3, 1) := by decide +kernel
theorem dX9_init_238 : decode cX9_init 238 = .ok (.newarray .int, 2) := by decide +kernel
theorem dX9_init_240 : decode cX9_init 240 = .ok (.putfield 102, 3) := by decide +kernel
theorem dX9_init_243 : decode cX9_init 243 = .ok (.aload_n 0, 1) := by decide +kernel
theorem dX9_init_244 : decode cX9_init 244 = .ok (.iconst 3, 1) := by decide +kernel
theorem dX9_init_245 : decode cX9_init 245 = .ok (.newarray .int, 2) := by decide +kernel
theorem dX9_init_247 : decode cX9_init 247 = .ok (.putfield 105, 3) := by decide +kernel
theorem dX9_init_250 : decode cX9_init 250 = .ok (.return_, 1) := by decide +kernel
theorem dX9_thrown_0 : decode cX9_thrown 0 = .ok (.aload_n 0, 1) := by decide +kernel
theorem dX9_thrown_1 : decode cX9_thrown 1 = .ok (.getfield 108, 3) := by decide +kernel
theorem dX9_thrown_4 : decode cX9_thrown 4 = .ok (.ireturn, 1) := by decide +kernel
theorem dX9_in_0 : decode cX9_in 0 = .ok (.iload_n 0, 1) := by decide +kernel
theorem dX9_in_1 : decode cX9_in 1 = .ok (.iload_n 1, 1) := by decide +kernel
theorem dX9_in_2 : decode cX9_in 2 = .ok (.if_icmp .lt 12, 3) := by decide +kernel
theorem dX9_in_5 : decode cX9_in 5 = .ok (.iload_n 0, 1) := by decide +kernel
theorem dX9_in_6 : decode cX9_in 6 = .ok (.iload_n 2, 1) := by decide +kernel
theorem dX9_in_7 : decode cX9_in 7 = .ok (.if_icmp .gt 7, 3) := by decide +kernel
theorem dX9_in_10 : decode cX9_in 10 = .ok (.iconst 1, 1) := by decide +kernel
theorem dX9_in_11 : decode cX9_in 11 = .ok (.goto 4, 3) := by decide +kernel
theorem dX9_in_14 : decode cX9_in 14 = .ok (.iconst 0, 1) := by decide +kernel
theorem dX9_in_15 : decode cX9_in 15 = .ok (.ireturn, 1) := by decide +kernel
theorem dX9_asked_0 : decode cX9_asked 0 = .ok (.aload_n 0, 1) := by decide +kernel
theorem dX9_asked_1 : decode cX9_asked 1 = .ok (.iload_n 1, 1) := by decide +kernel
theorem dX9_asked_2 : decode cX9_asked 2 = .ok (.ifCond .eq 7, 3) := by decide +kernel
theorem dX9_asked_5 : decode cX9_asked 5 = .ok (.iconst 0, 1) := by decide +kernel
theorem dX9_asked_6 : decode cX9_asked 6 = .ok (.goto 4, 3) := by decide +kernel
theorem dX9_asked_9 : decode cX9_asked 9 = .ok (.iconst 1, 1) := by decide +kernel
theorem dX9_asked_10 : decode cX9_asked 10 = .ok (.putfield 108, 3) := by decide +kernel
theorem dX9_asked_13 : decode cX9_asked 13 = .ok (.iload_n 1, 1) := by decide +kernel
theorem dX9_asked_14 : decode cX9_asked 14 = .ok (.ireturn, 1) := by decide +kernel
theorem dX9_asked__0 : decode cX9_asked_ 0 = .ok (.aload_n 0, 1) := by decide +kernel
theorem dX9_asked__1 : decode cX9_asked_ 1 = .ok (.iload_n 1, 1) := by decide +kernel
theorem dX9_asked__2 : decode cX9_asked_ 2 = .ok (.ifCond .ne 7, 3) := by decide +kernel
theorem dX9_asked__5 : decode cX9_asked_ 5 = .ok (.iconst 1, 1) := by decide +kernel
theorem dX9_asked__6 : decode cX9_asked_ 6 = .ok (.goto 12, 3) := by decide +kernel
theorem dX9_asked__9 : decode cX9_asked_ 9 = .ok (.iload_n 2, 1) := by decide +kernel
theorem dX9_asked__10 : decode cX9_asked_ 10 = .ok (.ifCond .eq 7, 3) := by decide +kernel
theorem dX9_asked__13 : decode cX9_asked_ 13 = .ok (.iconst 0, 1) := by decide +kernel
theorem dX9_asked__14 : decode cX9_asked_ 14 = .ok (.goto 4, 3) := by decide +kernel
theorem dX9_asked__17 : decode cX9_asked_ 17 = .ok (.iconst 2, 1) := by decide +kernel
theorem dX9_asked__18 : decode cX9_asked_ 18 = .ok (.putfield 108, 3) := by decide +kernel
theorem dX9_asked__21 : decode cX9_asked_ 21 = .ok (.aload_n 0, 1) := by decide +kernel
theorem dX9_asked__22 : decode cX9_asked_ 22 = .ok (.getfield 108, 3) := by decide +kernel
theorem dX9_asked__25 : decode cX9_asked_ 25 = .ok (.ifCond .ne 7, 3) := by decide +kernel
theorem dX9_asked__28 : decode cX9_asked_ 28 = .ok (.iconst 1, 1) := by decide +kernel
theorem dX9_asked__29 : decode cX9_asked_ 29 = .ok (.goto 4, 3) := by decide +kernel
theorem dX9_asked__32 : decode cX9_asked_ 32 = .ok (.iconst 0, 1) := by decide +kernel
theorem dX9_asked__33 : decode cX9_asked_ 33 = .ok (.ireturn, 1) := by decide +kernel
theorem dX9_asked___0 : decode cX9_asked__ 0 = .ok (.aload_n 0, 1) := by decide +kernel
theorem dX9_asked___1 : decode cX9_asked__ 1 = .ok (.iload_n 1, 1) := by decide +kernel
theorem dX9_asked___2 : decode cX9_asked__ 2 = .ok (.ifCond .ne 7, 3) := by decide +kernel
theorem dX9_asked___5 : decode cX9_asked__ 5 = .ok (.iconst 1, 1) := by decide +kernel
theorem dX9_asked___6 : decode cX9_asked__ 6 = .ok (.goto 20, 3) := by decide +kernel
theorem dX9_asked___9 : decode cX9_asked__ 9 = .ok (.iload_n 2, 1) := by decide +kernel
theorem dX9_asked___10 : decode cX9_asked__ 10 = .ok (.ifCond .ne 7, 3) := by decide +kernel
theorem dX9_asked___13 : decode cX9_asked__ 13 = .ok (.iconst 2, 1) := by decide +kernel
theorem dX9_asked___14 : decode cX9_asked__ 14 = .ok (.goto 12, 3) := by decide +kernel
theorem dX9_asked___17 : decode cX9_asked__ 17 = .ok (.iload_n 3, 1) := by decide +kernel
theorem dX9_asked___18 : decode cX9_asked__ 18 = .ok (.ifCond .eq 7, 3) := by decide +kernel
theorem dX9_asked___21 : decode cX9_asked__ 21 = .ok (.iconst 0, 1) := by decide +kernel
theorem dX9_asked___22 : decode cX9_asked__ 22 = .ok (.goto 4, 3) := by decide +kernel
theorem dX9_asked___25 : decode cX9_asked__ 25 = .ok (.iconst 3, 1) := by decide +kernel
theorem dX9_asked___26 : decode cX9_asked__ 26 = .ok (.putfield 108, 3) := by decide +kernel
theorem dX9_asked___29 : decode cX9_asked__ 29 = .ok (.aload_n 0, 1) := by decide +kernel
theorem dX9_asked___30 : decode cX9_asked__ 30 = .ok (.getfield 108, 3) := by decide +kernel
theorem dX9_asked___33 : decode cX9_asked__ 33 = .ok (.ifCond .ne 7, 3) := by decide +kernel
theorem dX9_asked___36 : decode cX9_asked__ 36 = .ok (.iconst 1, 1) := by decide +kernel
theorem dX9_asked___37 : decode cX9_asked__ 37 = .ok (.goto 4, 3) := by decide +kernel
theorem dX9_asked___40 : decode cX9_asked__ 40 = .ok (.iconst 0, 1) := by decide +kernel
theorem dX9_asked___41 : decode cX9_asked__ 41 = .ok (.ireturn, 1) := by decide +kernel
theorem dX9_told_0 : decode cX9_told 0 = .ok (.aload_n 0, 1) := by decide +kernel
theorem dX9_told_1 : decode cX9_told 1 = .ok (.iconst 0, 1) := by decide +kernel
theorem dX9_told_2 : decode cX9_told 2 = .ok (.putfield 108, 3) := by decide +kernel
theorem dX9_told_5 : decode cX9_told 5 = .ok (.iload_n 1, 1) := by decide +kernel
theorem dX9_told_6 : decode cX9_told 6 = .ok (.ireturn, 1) := by decide +kernel
theorem dX9_isTable_0 : decode cX9_isTable 0 = .ok (.iload_n 1, 1) := by decide +kernel
theorem dX9_isTable_1 : decode cX9_isTable 1 = .ok (.iconst 0, 1) := by decide +kernel
theorem dX9_isTable_2 : decode cX9_isTable 2 = .ok (.aload_n 0, 1) := by decide +kernel
theorem dX9_isTable_3 : decode cX9_isTable 3 = .ok (.getfield 111, 3) := by decide +kernel
theorem dX9_isTable_6 : decode cX9_isTable 6 = .ok (.iconst 1, 1) := by decide +kernel
theorem dX9_isTable_7 : decode cX9_isTable 7 = .ok (.isub, 1) := by decide +kernel
theorem dX9_isTable_8 : decode cX9_isTable 8 = .ok (.invokestatic 114, 3) := by decide +kernel
theorem dX9_isTable_11 : decode cX9_isTable 11 = .ok (.ireturn, 1) := by decide +kernel
theorem dX9_isColumn_0 : decode cX9_isColumn 0 = .ok (.aload_n 0, 1) := by decide +kernel
theorem dX9_isColumn_1 : decode cX9_isColumn 1 = .ok (.iload_n 1, 1) := by decide +kernel
theorem dX9_isColumn_2 : decode cX9_isColumn 2 = .ok (.invokevirtual 118, 3) := by decide +kernel
theorem dX9_isColumn_5 : decode cX9_isColumn 5 = .ok (.ifCond .eq 23, 3) := by decide +kernel
theorem dX9_isColumn_8 : decode cX9_isColumn 8 = .ok (.iload_n 2, 1) := by decide +kernel
theorem dX9_isColumn_9 : decode cX9_isColumn 9 = .ok (.iconst 0, 1) := by decide +kernel
theorem dX9_isColumn_10 : decode cX9_isColumn 10 = .ok (.aload_n 0, 1) := by decide +kernel
theorem dX9_isColumn_11 : decode cX9_isColumn 11 = .ok (.getfield 7, 3) := by decide +kernel
theorem dX9_isColumn_14 : decode cX9_isColumn 14 = .ok (.iload_n 1, 1) := by decide +kernel
theorem dX9_isColumn_15 : decode cX9_isColumn 15 = .ok (.iaload, 1) := by decide +kernel
theorem dX9_isColumn_16 : decode cX9_isColumn 16 = .ok (.iconst 1, 1) := by decide +kernel
theorem dX9_isColumn_17 : decode cX9_isColumn 17 = .ok (.isub, 1) := by decide +kernel
theorem dX9_isColumn_18 : decode cX9_isColumn 18 = .ok (.invokestatic 114, 3) := by decide +kernel
theorem dX9_isColumn_21 : decode cX9_isColumn 21 = .ok (.ifCond .eq 7, 3) := by decide +kernel
theorem dX9_isColumn_24 : decode cX9_isColumn 24 = .ok (.iconst 1, 1) := by decide +kernel
theorem dX9_isColumn_25 : decode cX9_isColumn 25 = .ok (.goto 4, 3) := by decide +kernel
theorem dX9_isColumn_28 : decode cX9_isColumn 28 = .ok (.iconst 0, 1) := by decide +kernel
theorem dX9_isColumn_29 : decode cX9_isColumn 29 = .ok (.ireturn, 1) := by decide +kernel
theorem dX9_isRow_0 : decode cX9_isRow 0 = .ok (.aload_n 0, 1) := by decide +kernel
theorem dX9_isRow_1 : decode cX9_isRow 1 = .ok (.iload_n 1, 1) := by decide +kernel
theorem dX9_isRow_2 : decode cX9_isRow 2 = .ok (.invokevirtual 118, 3) := by decide +kernel
theorem dX9_isRow_5 : decode cX9_isRow 5 = .ok (.ifCond .eq 37, 3) := by decide +kernel
theorem dX9_isRow_8 : decode cX9_isRow 8 = .ok (.iload_n 2, 1) := by decide +kernel
theorem dX9_isRow_9 : decode cX9_isRow 9 = .ok (.iconst 0, 1) := by decide +kernel
theorem dX9_isRow_10 : decode cX9_isRow 10 = .ok (.aload_n 0, 1) := by decide +kernel
theorem dX9_isRow_11 : decode cX9_isRow 11 = .ok (.getfield 13, 3) := by decide +kernel
theorem dX9_isRow_14 : decode cX9_isRow 14 = .ok (.iload_n 1, 1) := by decide +kernel
theorem dX9_isRow_15 : decode cX9_isRow 15 = .ok (.iaload, 1) := by decide +kernel
theorem dX9_isRow_16 : decode cX9_isRow 16 = .ok (.iconst 1, 1) := by decide +kernel
theorem dX9_isRow_17 : decode cX9_isRow 17 = .ok (.isub, 1) := by decide +kernel
theorem dX9_isRow_18 : decode cX9_isRow 18 = .ok (.invokestatic 114, 3) := by decide +kernel
theorem dX9_isRow_21 : decode cX9_isRow 21 = .ok (.ifCond .eq 21, 3) := by decide +kernel
theorem dX9_isRow_24 : decode cX9_isRow 24 = .ok (.aload_n 0, 1) := by decide +kernel
theorem dX9_isRow_25 : decode cX9_isRow 25 = .ok (.getfield 16, 3) := by decide +kernel
theorem dX9_isRow_28 : decode cX9_isRow 28 = .ok (.bipush 40, 2) := by decide +kernel
theorem dX9_isRow_30 : decode cX9_isRow 30 = .ok (.iload_n 1, 1) := by decide +kernel
theorem dX9_isRow_31 : decode cX9_isRow 31 = .ok (.imul, 1) := by decide +kernel
theorem dX9_isRow_32 : decode cX9_isRow 32 = .ok (.iload_n 2, 1) := by decide +kernel
theorem dX9_isRow_33 : decode cX9_isRow 33 = .ok (.iadd, 1) := by decide +kernel
theorem dX9_isRow_34 : decode cX9_isRow 34 = .ok (.baload, 1) := by decide +kernel
theorem dX9_isRow_35 : decode cX9_isRow 35 = .ok (.ifCond .eq 7, 3) := by decide +kernel
theorem dX9_isRow_38 : decode cX9_isRow 38 = .ok (.iconst 1, 1) := by decide +kernel
theorem dX9_isRow_39 : decode cX9_isRow 39 = .ok (.goto 4, 3) := by decide +kernel
theorem dX9_isRow_42 : decode cX9_isRow 42 = .ok (.iconst 0, 1) := by decide +kernel
theorem dX9_isRow_43 : decode cX9_isRow 43 = .ok (.ireturn, 1) := by decide +kernel
theorem dX9_isReport_0 : decode cX9_isReport 0 = .ok (.iload_n 1, 1) := by decide +kernel
theorem dX9_isReport_1 : decode cX9_isReport 1 = .ok (.iconst 0, 1) := by decide +kernel
theorem dX9_isReport_2 : decode cX9_isReport 2 = .ok (.aload_n 0, 1) := by decide +kernel
theorem dX9_isReport_3 : decode cX9_isReport 3 = .ok (.getfield 122, 3) := by decide +kernel
theorem dX9_isReport_6 : decode cX9_isReport 6 = .ok (.iconst 1, 1) := by decide +kernel
theorem dX9_isReport_7 : decode cX9_isReport 7 = .ok (.isub, 1) := by decide +kernel
theorem dX9_isReport_8 : decode cX9_isReport 8 = .ok (.invokestatic 114, 3) := by decide +kernel
theorem dX9_isReport_11 : decode cX9_isReport 11 = .ok (.ireturn, 1) := by decide +kernel
theorem dX9_isSource_0 : decode cX9_isSource 0 = .ok (.aload_n 0, 1) := by decide +kernel
theorem dX9_isSource_1 : decode cX9_isSource 1 = .ok (.iload_n 1, 1) := by decide +kernel
theorem dX9_isSource_2 : decode cX9_isSource 2 = .ok (.invokevirtual 125, 3) := by decide +kernel
theorem dX9_isSource_5 : decode cX9_isSource 5 = .ok (.ifCond .eq 23, 3) := by decide +kernel
theorem dX9_isSource_8 : decode cX9_isSource 8 = .ok (.iload_n 2, 1) := by decide +kernel
theorem dX9_isSource_9 : decode cX9_isSource 9 = .ok (.iconst 0, 1) := by decide +kernel
theorem dX9_isSource_10 : decode cX9_isSource 10 = .ok (.aload_n 0, 1) := by decide +kernel
theorem dX9_isSource_11 : decode cX9_isSource 11 = .ok (.getfield 51, 3) := by decide +kernel
theorem dX9_isSource_14 : decode cX9_isSource 14 = .ok (.iload_n 1, 1) := by decide +kernel
theorem dX9_isSource_15 : decode cX9_isSource 15 = .ok (.iaload, 1) := by decide +kernel
theorem dX9_isSource_16 : decode cX9_isSource 16 = .ok (.iconst 1, 1) := by decide +kernel
theorem dX9_isSource_17 : decode cX9_isSource 17 = .ok (.isub, 1) := by decide +kernel
theorem dX9_isSource_18 : decode cX9_isSource 18 = .ok (.invokestatic 114, 3) := by decide +kernel
theorem dX9_isSource_21 : decode cX9_isSource 21 = .ok (.ifCond .eq 7, 3) := by decide +kernel
theorem dX9_isSource_24 : decode cX9_isSource 24 = .ok (.iconst 1, 1) := by decide +kernel
theorem dX9_isSource_25 : decode cX9_isSource 25 = .ok (.goto 4, 3) := by decide +kernel
theorem dX9_isSource_28 : decode cX9_isSource 28 = .ok (.iconst 0, 1) := by decide +kernel
theorem dX9_isSource_29 : decode cX9_isSource 29 = .ok (.ireturn, 1) := by decide +kernel
theorem dX9_isColumnOf_0 : decode cX9_isColumnOf 0 = .ok (.aload_n 0, 1) := by decide +kernel
theorem dX9_isColumnOf_1 : decode cX9_isColumnOf 1 = .ok (.iload_n 1, 1) := by decide +kernel
theorem dX9_isColumnOf_2 : decode cX9_isColumnOf 2 = .ok (.iload_n 2, 1) := by decide +kernel
theorem dX9_isColumnOf_3 : decode cX9_isColumnOf 3 = .ok (.invokevirtual 128, 3) := by decide +kernel
theorem dX9_isColumnOf_6 : decode cX9_isColumnOf 6 = .ok (.ifCond .eq 25, 3) := by decide +kernel
theorem dX9_isColumnOf_9 : decode cX9_isColumnOf 9 = .ok (.aload_n 0, 1) := by decide +kernel
theorem dX9_isColumnOf_10 : decode cX9_isColumnOf 10 = .ok (.aload_n 0, 1) := by decide +kernel
theorem dX9_isColumnOf_11 : decode cX9_isColumnOf 11 = .ok (.getfield 54, 3) := by decide +kernel
theorem dX9_isColumnOf_14 : decode cX9_isColumnOf 14 = .ok (.iconst 3, 1) := by decide +kernel
theorem dX9_isColumnOf_15 : decode cX9_isColumnOf 15 = .ok (.iload_n 1, 1) := by decide +kernel
theorem dX9_isColumnOf_16 : decode cX9_isColumnOf 16 = .ok (.imul, 1) := by decide +kernel
theorem dX9_isColumnOf_17 : decode cX9_isColumnOf 17 = .ok (.iload_n 2, 1) := by decide +kernel
theorem dX9_isColumnOf_18 : decode cX9_isColumnOf 18 = .ok (.iadd, 1) := by decide +kernel
theorem dX9_isColumnOf_19 : decode cX9_isColumnOf 19 = .ok (.iaload, 1) := by decide +kernel
theorem dX9_isColumnOf_20 : decode cX9_isColumnOf 20 = .ok (.iload_n 3, 1) := by decide +kernel
theorem dX9_isColumnOf_21 : decode cX9_isColumnOf 21 = .ok (.invokevirtual 132, 3) := by decide +kernel
theorem dX9_isColumnOf_24 : decode cX9_isColumnOf 24 = .ok (.ifCond .eq 7, 3) := by decide +kernel
theorem dX9_isColumnOf_27 : decode cX9_isColumnOf 27 = .ok (.iconst 1, 1) := by decide +kernel
theorem dX9_isColumnOf_28 : decode cX9_isColumnOf 28 = .ok (.goto 4, 3) := by decide +kernel
theorem dX9_isColumnOf_31 : decode cX9_isColumnOf 31 = .ok (.iconst 0, 1) := by decide +kernel
theorem dX9_isColumnOf_32 : decode cX9_isColumnOf 32 = .ok (.ireturn, 1) := by decide +kernel
theorem dX9_addTable_0 : decode cX9_addTable 0 = .ok (.aload_n 0, 1) := by decide +kernel
theorem dX9_addTable_1 : decode cX9_addTable 1 = .ok (.iload_n 1, 1) := by decide +kernel
theorem dX9_addTable_2 : decode cX9_addTable 2 = .ok (.iconst 1, 1) := by decide +kernel
theorem dX9_addTable_3 : decode cX9_addTable 3 = .ok (.iconst 3, 1) := by decide +kernel
theorem dX9_addTable_4 : decode cX9_addTable 4 = .ok (.invokestatic 114, 3) := by decide +kernel
theorem dX9_addTable_7 : decode cX9_addTable 7 = .ok (.aload_n 0, 1) := by decide +kernel
theorem dX9_addTable_8 : decode cX9_addTable 8 = .ok (.getfield 111, 3) := by decide +kernel
theorem dX9_addTable_11 : decode cX9_addTable 11 = .ok (.iconst 4, 1) := by decide +kernel
theorem dX9_addTable_12 : decode cX9_addTable 12 = .ok (.if_icmp .ge 7, 3) := by decide +kernel
theorem dX9_addTable_15 : decode cX9_addTable 15 = .ok (.iconst 1, 1) := by decide +kernel
theorem dX9_addTable_16 : decode cX9_addTable 16 = .ok (.goto 4, 3) := by decide +kernel
theorem dX9_addTable_19 : decode cX9_addTable 19 = .ok (.iconst 0, 1) := by decide +kernel
theorem dX9_addTable_20 : decode cX9_addTable 20 = .ok (.invokevirtual 135, 3) := by decide +kernel
theorem dX9_addTable_23 : decode cX9_addTable 23 = .ok (.ifCond .ne 5, 3) := by decide +kernel
theorem dX9_addTable_26 : decode cX9_addTable 26 = .ok (.iconst 0, 1) := by decide +kernel
theorem dX9_addTable_27 : decode cX9_addTable 27 = .ok (.ireturn, 1) := by decide +kernel
theorem dX9_addTable_28 : decode cX9_addTable 28 = .ok (.aload_n 0, 1) := by decide +kernel
theorem dX9_addTable_29 : decode cX9_addTable 29 = .ok (.getfield 7, 3) := by decide +kernel
theorem dX9_addTable_32 : decode cX9_addTable 32 = .ok (.aload_n 0, 1) := by decide +kernel
theorem dX9_addTable_33 : decode cX9_addTable 33 = .ok (.getfield 111, 3) := by decide +kernel
theorem dX9_addTable_36 : decode cX9_addTable 36 = .ok (.iload_n 1, 1) := by decide +kernel
theorem dX9_addTable_37 : decode cX9_addTable 37 = .ok (.iastore, 1) := by decide +kernel
theorem dX9_addTable_38 : decode cX9_addTable 38 = .ok (.aload_n 0, 1) := by decide +kernel
theorem dX9_addTable_39 : decode cX9_addTable 39 = .ok (.dup, 1) := by decide +kernel
theorem dX9_addTable_40 : decode cX9_addTable 40 = .ok (.getfield 111, 3) := by decide +kernel
theorem dX9_addTable_43 : decode cX9_addTable 43 = .ok (.iconst 1, 1) := by decide +kernel
theorem dX9_addTable_44 : decode cX9_addTable 44 = .ok (.iadd, 1) := by decide +kernel
theorem dX9_addTable_45 : decode cX9_addTable 45 = .ok (.putfield 111, 3) := by decide +kernel
theorem dX9_addTable_48 : decode cX9_addTable 48 = .ok (.aload_n 0, 1) := by decide +kernel
theorem dX9_addTable_49 : decode cX9_addTable 49 = .ok (.getfield 111, 3) := by decide +kernel
theorem dX9_addTable_52 : decode cX9_addTable 52 = .ok (.iconst 1, 1) := by decide +kernel
theorem dX9_addTable_53 : decode cX9_addTable 53 = .ok (.isub, 1) := by decide +kernel
theorem dX9_addTable_54 : decode cX9_addTable 54 = .ok (.ireturn, 1) := by decide +kernel
theorem dX9_insert_0 : decode cX9_insert 0 = .ok (.aload_n 0, 1) := by decide +kernel
theorem dX9_insert_1 : decode cX9_insert 1 = .ok (.iload_n 1, 1) := by decide +kernel
theorem dX9_insert_2 : decode cX9_insert 2 = .ok (.invokevirtual 118, 3) := by decide +kernel
theorem dX9_insert_5 : decode cX9_insert 5 = .ok (.istore 5, 2) := by decide +kernel
theorem dX9_insert_7 : decode cX9_insert 7 = .ok (.iload 5, 2) := by decide +kernel
theorem dX9_insert_9 : decode cX9_insert 9 = .ok (.ifCond .eq 69, 3) := by decide +kernel
theorem dX9_insert_12 : decode cX9_insert 12 = .ok (.iload_n 2, 1) := by decide +kernel
theorem dX9_insert_13 : decode cX9_insert 13 = .ok (.iconst 0, 1) := by decide +kernel
theorem dX9_insert_14 : decode cX9_insert 14 = .ok (.sipush 999, 3) := by decide +kernel
theorem dX9_insert_17 : decode cX9_insert 17 = .ok (.invokestatic 114, 3) := by decide +kernel
theorem dX9_insert_20 : decode cX9_insert 20 = .ok (.ifCond .eq 58, 3) := by decide +kernel
theorem dX9_insert_23 : decode cX9_insert 23 = .ok (.iload_n 3, 1) := by decide +kernel
theorem dX9_insert_24 : decode cX9_insert 24 = .ok (.iconst 0, 1) := by decide +kernel
theorem dX9_insert_25 : decode cX9_insert 25 = .ok (.aload_n 0, 1) := by decide +kernel
theorem dX9_insert_26 : decode cX9_insert 26 = .ok (.getfield 7, 3) := by decide +kernel
theorem dX9_insert_29 : decode cX9_insert 29 = .ok (.iload_n 1, 1) := by decide +kernel
theorem dX9_insert_30 : decode cX9_insert 30 = .ok (.iaload, 1) := by decide +kernel
theorem dX9_insert_31 : decode cX9_insert 31 = .ok (.iconst 1, 1) := by decide +kernel
theorem dX9_insert_32 : decode cX9_insert 32 = .ok (.if_icmp .le 9, 3) := by decide +kernel
theorem dX9_insert_35 : decode cX9_insert 35 = .ok (.sipush 999, 3) := by decide +kernel
theorem dX9_insert_38 : decode cX9_insert 38 = .ok (.goto 4, 3) := by decide +kernel
theorem dX9_insert_41 : decode cX9_insert 41 = .ok (.iconst 0, 1) := by decide +kernel
theorem dX9_insert_42 : decode cX9_insert 42 = .ok (.invokestatic 114, 3) := by decide +kernel
theorem dX9_insert_45 : decode cX9_insert 45 = .ok (.ifCond .eq 33, 3) := by decide +kernel
theorem dX9_insert_48 : decode cX9_insert 48 = .ok (.iload 4, 2) := by decide +kernel
theorem dX9_insert_50 : decode cX9_insert 50 = .ok (.iconst 0, 1) := by decide +kernel
theorem dX9_insert_51 : decode cX9_insert 51 = .ok (.aload_n 0, 1) := by decide +kernel
theorem dX9_insert_52 : decode cX9_insert 52 = .ok (.getfield 7, 3) := by decide +kernel
theorem dX9_insert_55 : decode cX9_insert 55 = .ok (.iload_n 1, 1) := by decide +kernel
theorem dX9_insert_56 : decode cX9_insert 56 = .ok (.iaload, 1) := by decide +kernel
theorem dX9_insert_57 : decode cX9_insert 57 = .ok (.iconst 2, 1) := by decide +kernel
theorem dX9_insert_58 : decode cX9_insert 58 = .ok (.if_icmp .le 9, 3) := by decide +kernel
theorem dX9_insert_61 : decode cX9_insert 61 = .ok (.sipush 999, 3) := by decide +kernel
theorem dX9_insert_64 : decode cX9_insert 64 = .ok (.goto 4, 3) := by decide +kernel
theorem dX9_insert_67 : decode cX9_insert 67 = .ok (.iconst 0, 1) := by decide +kernel
theorem dX9_insert_68 : decode cX9_insert 68 = .ok (.invokestatic 114, 3) := by decide +kernel
theorem dX9_insert_71 : decode cX9_insert 71 = .ok (.ifCond .eq 7, 3) := by decide +kernel
theorem dX9_insert_74 : decode cX9_insert 74 = .ok (.iconst 1, 1) := by decide +kernel
theorem dX9_insert_75 : decode cX9_insert 75 = .ok (.goto 4, 3) := by decide +kernel
theorem dX9_insert_78 : decode cX9_insert 78 = .ok (.iconst 0, 1) := by decide +kernel
theorem dX9_insert_79 : decode cX9_insert 79 = .ok (.istore 6, 2) := by decide +kernel
theorem dX9_insert_81 : decode cX9_insert 81 = .ok (.aload_n 0, 1) := by decide +kernel
theorem dX9_insert_82 : decode cX9_insert 82 = .ok (.iload 5, 2) := by decide +kernel
theorem dX9_insert_84 : decode cX9_insert 84 = .ok (.iload 6, 2) := by decide +kernel
theorem dX9_insert_86 : decode cX9_insert 86 = .ok (.iload 5, 2) := by decide +kernel
theorem dX9_insert_88 : decode cX9_insert 88 = .ok (.ifCond .eq 18, 3) := by decide +kernel
theorem dX9_insert_91 : decode cX9_insert 91 = .ok (.aload_n 0, 1) := by decide +kernel
theorem dX9_insert_92 : decode cX9_insert 92 = .ok (.getfield 13, 3) := by decide +kernel
theorem dX9_insert_95 : decode cX9_insert 95 = .ok (.iload_n 1, 1) := by decide +kernel
theorem dX9_insert_96 : decode cX9_insert 96 = .ok (.iaload, 1) := by decide +kernel
theorem dX9_insert_97 : decode cX9_insert 97 = .ok (.bipush 40, 2) := by decide +kernel
theorem dX9_insert_99 : decode cX9_insert 99 = .ok (.if_icmp .ge 7, 3) := by decide +kernel
theorem dX9_insert_102 : decode cX9_insert 102 = .ok (.iconst 1, 1) := by decide +kernel
theorem dX9_insert_103 : decode cX9_insert 103 = .ok (.goto 4, 3) := by decide +kernel
theorem dX9_insert_106 : decode cX9_insert 106 = .ok (.iconst 0, 1) := by decide +kernel
theorem dX9_insert_107 : decode cX9_insert 107 = .ok (.invokevirtual 139, 3) := by decide +kernel
theorem dX9_insert_110 : decode cX9_insert 110 = .ok (.ifCond .ne 5, 3) := by decide +kernel
theorem dX9_insert_113 : decode cX9_insert 113 = .ok (.iconst 0, 1) := by decide +kernel
theorem dX9_insert_114 : decode cX9_insert 114 = .ok (.ireturn, 1) := by decide +kernel
theorem dX9_insert_115 : decode cX9_insert 115 = .ok (.bipush 40, 2) := by decide +kernel
theorem dX9_insert_117 : decode cX9_insert 117 = .ok (.iload_n 1, 1) := by decide +kernel
theorem dX9_insert_118 : decode cX9_insert 118 = .ok (.imul, 1) := by decide +kernel
theorem dX9_insert_119 : decode cX9_insert 119 = .ok (.aload_n 0, 1) := by decide +kernel
theorem dX9_insert_120 : decode cX9_insert 120 = .ok (.getfield 13, 3) := by decide +kernel
theorem dX9_insert_123 : decode cX9_insert 123 = .ok (.iload_n 1, 1) := by decide +kernel
theorem dX9_insert_124 : decode cX9_insert 124 = .ok (.iaload, 1) := by decide +kernel
theorem dX9_insert_125 : decode cX9_insert 125 = .ok (.iadd, 1) := by decide +kernel
theorem dX9_insert_126 : decode cX9_insert 126 = .ok (.istore 7, 2) := by decide +kernel
theorem dX9_insert_128 : decode cX9_insert 128 = .ok (.aload_n 0, 1) := by decide +kernel
theorem dX9_insert_129 : decode cX9_insert 129 = .ok (.getfield 16, 3) := by decide +kernel
theorem dX9_insert_132 : decode cX9_insert 132 = .ok (.iload 7, 2) := by decide +kernel
theorem dX9_insert_134 : decode cX9_insert 134 = .ok (.iconst 1, 1) := by decide +kernel
theorem dX9_insert_135 : decode cX9_insert 135 = .ok (.bastore, 1) := by decide +kernel
theorem dX9_insert_136 : decode cX9_insert 136 = .ok (.aload_n 0, 1) := by decide +kernel
theorem dX9_insert_137 : decode cX9_insert 137 = .ok (.getfield 20, 3) := by decide +kernel
theorem dX9_insert_140 : decode cX9_insert 140 = .ok (.iconst 3, 1) := by decide +kernel
theorem dX9_insert_141 : decode cX9_insert 141 = .ok (.iload 7, 2) := by decide +kernel
theorem dX9_insert_143 : decode cX9_insert 143 = .ok (.imul, 1) := by decide +kernel
theorem dX9_insert_144 : decode cX9_insert 144 = .ok (.iload_n 2, 1) := by decide +kernel
theorem dX9_insert_145 : decode cX9_insert 145 = .ok (.iastore, 1) := by decide +kernel
theorem dX9_insert_146 : decode cX9_insert 146 = .ok (.aload_n 0, 1) := by decide +kernel
theorem dX9_insert_147 : decode cX9_insert 147 = .ok (.getfield 20, 3) := by decide +kernel
theorem dX9_insert_150 : decode cX9_insert 150 = .ok (.iconst 3, 1) := by decide +kernel
theorem dX9_insert_151 : decode cX9_insert 151 = .ok (.iload 7, 2) := by decide +kernel
theorem dX9_insert_153 : decode cX9_insert 153 = .ok (.imul, 1) := by decide +kernel
theorem dX9_insert_154 : decode cX9_insert 154 = .ok (.iconst 1, 1) := by decide +kernel
theorem dX9_insert_155 : decode cX9_insert 155 = .ok (.iadd, 1) := by decide +kernel
theorem dX9_insert_156 : decode cX9_insert 156 = .ok (.iload_n 3, 1) := by decide +kernel
theorem dX9_insert_157 : decode cX9_insert 157 = .ok (.iastore, 1) := by decide +kernel
theorem dX9_insert_158 : decode cX9_insert 158 = .ok (.aload_n 0, 1) := by decide +kernel
theorem dX9_insert_159 : decode cX9_insert 159 = .ok (.getfield 20, 3) := by decide +kernel
theorem dX9_insert_162 : decode cX9_insert 162 = .ok (.iconst 3, 1) := by decide +kernel
theorem dX9_insert_163 : decode cX9_insert 163 = .ok (.iload 7, 2) := by decide +kernel
theorem dX9_insert_165 : decode cX9_insert 165 = .ok (.imul, 1) := by decide +kernel
theorem dX9_insert_166 : decode cX9_insert 166 = .ok (.iconst 2, 1) := by decide +kernel
theorem dX9_insert_167 : decode cX9_insert 167 = .ok (.iadd, 1) := by decide +kernel
theorem dX9_insert_168 : decode cX9_insert 168 = .ok (.iload 4, 2) := by decide +kernel
theorem dX9_insert_170 : decode cX9_insert 170 = .ok (.iastore, 1) := by decide +kernel
theorem dX9_insert_171 : decode cX9_insert 171 = .ok (.aload_n 0, 1) := by decide +kernel
theorem dX9_insert_172 : decode cX9_insert 172 = .ok (.getfield 13, 3) := by decide +kernel
theorem dX9_insert_175 : decode cX9_insert 175 = .ok (.iload_n 1, 1) := by decide +kernel
theorem dX9_insert_176 : decode cX9_insert 176 = .ok (.dup2, 1) := by decide +kernel
theorem dX9_insert_177 : decode cX9_insert 177 = .ok (.iaload, 1) := by decide +kernel
theorem dX9_insert_178 : decode cX9_insert 178 = .ok (.iconst 1, 1) := by decide +kernel
theorem dX9_insert_179 : decode cX9_insert 179 = .ok (.iadd, 1) := by decide +kernel
theorem dX9_insert_180 : decode cX9_insert 180 = .ok (.iastore, 1) := by decide +kernel
theorem dX9_insert_181 : decode cX9_insert 181 = .ok (.aload_n 0, 1) := by decide +kernel
theorem dX9_insert_182 : decode cX9_insert 182 = .ok (.getfield 13, 3) := by decide +kernel
theorem dX9_insert_185 : decode cX9_insert 185 = .ok (.iload_n 1, 1) := by decide +kernel
theorem dX9_insert_186 : decode cX9_insert 186 = .ok (.iaload, 1) := by decide +kernel
theorem dX9_insert_187 : decode cX9_insert 187 = .ok (.iconst 1, 1) := by decide +kernel
theorem dX9_insert_188 : decode cX9_insert 188 = .ok (.isub, 1) := by decide +kernel
theorem dX9_insert_189 : decode cX9_insert 189 = .ok (.ireturn, 1) := by decide +kernel
theorem dX9_rowsOf_0 : decode cX9_rowsOf 0 = .ok (.iconst 0, 1) := by decide +kernel
theorem dX9_rowsOf_1 : decode cX9_rowsOf 1 = .ok (.istore_n 2, 1) := by decide +kernel
theorem dX9_rowsOf_2 : decode cX9_rowsOf 2 = .ok (.bipush 40, 2) := by decide +kernel
theorem dX9_rowsOf_4 : decode cX9_rowsOf 4 = .ok (.iload_n 1, 1) := by decide +kernel
theorem dX9_rowsOf_5 : decode cX9_rowsOf 5 = .ok (.imul, 1) := by decide +kernel
theorem dX9_rowsOf_6 : decode cX9_rowsOf 6 = .ok (.istore_n 3, 1) := by decide +kernel
theorem dX9_rowsOf_7 : decode cX9_rowsOf 7 = .ok (.iload_n 3, 1) := by decide +kernel
theorem dX9_rowsOf_8 : decode cX9_rowsOf 8 = .ok (.bipush 40, 2) := by decide +kernel
theorem dX9_rowsOf_10 : decode cX9_rowsOf 10 = .ok (.iload_n 1, 1) := by decide +kernel
theorem dX9_rowsOf_11 : decode cX9_rowsOf 11 = .ok (.imul, 1) := by decide +kernel
theorem dX9_rowsOf_12 : decode cX9_rowsOf 12 = .ok (.aload_n 0, 1) := by decide +kernel
theorem dX9_rowsOf_13 : decode cX9_rowsOf 13 = .ok (.getfield 13, 3) := by decide +kernel
theorem dX9_rowsOf_16 : decode cX9_rowsOf 16 = .ok (.iload_n 1, 1) := by decide +kernel
theorem dX9_rowsOf_17 : decode cX9_rowsOf 17 = .ok (.iaload, 1) := by decide +kernel
theorem dX9_rowsOf_18 : decode cX9_rowsOf 18 = .ok (.iadd, 1) := by decide +kernel
theorem dX9_rowsOf_19 : decode cX9_rowsOf 19 = .ok (.if_icmp .ge 26, 3) := by decide +kernel
theorem dX9_rowsOf_22 : decode cX9_rowsOf 22 = .ok (.iload_n 2, 1) := by decide +kernel
theorem dX9_rowsOf_23 : decode cX9_rowsOf 23 = .ok (.aload_n 0, 1) := by decide +kernel
theorem dX9_rowsOf_24 : decode cX9_rowsOf 24 = .ok (.getfield 16, 3) := by decide +kernel
theorem dX9_rowsOf_27 : decode cX9_rowsOf 27 = .ok (.iload_n 3, 1) := by decide +kernel
theorem dX9_rowsOf_28 : decode cX9_rowsOf 28 = .ok (.baload, 1) := by decide +kernel
theorem dX9_rowsOf_29 : decode cX9_rowsOf 29 = .ok (.ifCond .eq 7, 3) := by decide +kernel
theorem dX9_rowsOf_32 : decode cX9_rowsOf 32 = .ok (.iconst 1, 1) := by decide +kernel
theorem dX9_rowsOf_33 : decode cX9_rowsOf 33 = .ok (.goto 4, 3) := by decide +kernel
theorem dX9_rowsOf_36 : decode cX9_rowsOf 36 = .ok (.iconst 0, 1) := by decide +kernel
theorem dX9_rowsOf_37 : decode cX9_rowsOf 37 = .ok (.iadd, 1) := by decide +kernel
theorem dX9_rowsOf_38 : decode cX9_rowsOf 38 = .ok (.istore_n 2, 1) := by decide +kernel
theorem dX9_rowsOf_39 : decode cX9_rowsOf 39 = .ok (.iinc 3 1, 3) := by decide +kernel
theorem dX9_rowsOf_42 : decode cX9_rowsOf 42 = .ok (.goto (-35), 3) := by decide +kernel
theorem dX9_rowsOf_45 : decode cX9_rowsOf 45 = .ok (.iload_n 2, 1) := by decide +kernel
theorem dX9_rowsOf_46 : decode cX9_rowsOf 46 = .ok (.ireturn, 1) := by decide +kernel
theorem dX9_delete_0 : decode cX9_delete 0 = .ok (.aload_n 0, 1) := by decide +kernel
theorem dX9_delete_1 : decode cX9_delete 1 = .ok (.aload_n 0, 1) := by decide +kernel
theorem dX9_delete_2 : decode cX9_delete 2 = .ok (.iload_n 1, 1) := by decide +kernel
theorem dX9_delete_3 : decode cX9_delete 3 = .ok (.iload_n 2, 1) := by decide +kernel
theorem dX9_delete_4 : decode cX9_delete 4 = .ok (.invokevirtual 142, 3) := by decide +kernel
theorem dX9_delete_7 : decode cX9_delete 7 = .ok (.invokevirtual 145, 3) := by decide +kernel
theorem dX9_delete_10 : decode cX9_delete 10 = .ok (.ifCond .ne 5, 3) := by decide +kernel
theorem dX9_delete_13 : decode cX9_delete 13 = .ok (.iconst 0, 1) := by decide +kernel
theorem dX9_delete_14 : decode cX9_delete 14 = .ok (.ireturn, 1) := by decide +kernel
theorem dX9_delete_15 : decode cX9_delete 15 = .ok (.aload_n 0, 1) := by decide +kernel
theorem dX9_delete_16 : decode cX9_delete 16 = .ok (.getfield 16, 3) := by decide +kernel
theorem dX9_delete_19 : decode cX9_delete 19 = .ok (.bipush 40, 2) := by decide +kernel
theorem dX9_delete_21 : decode cX9_delete 21 = .ok (.iload_n 1, 1) := by decide +kernel
theorem dX9_delete_22 : decode cX9_delete 22 = .ok (.imul, 1) := by decide +kernel
theorem dX9_delete_23 : decode cX9_delete 23 = .ok (.iload_n 2, 1) := by decide +kernel
theorem dX9_delete_24 : decode cX9_delete 24 = .ok (.iadd, 1) := by decide +kernel
theorem dX9_delete_25 : decode cX9_delete 25 = .ok (.iconst 0, 1) := by decide +kernel
theorem dX9_delete_26 : decode cX9_delete 26 = .ok (.bastore, 1) := by decide +kernel
theorem dX9_delete_27 : decode cX9_delete 27 = .ok (.aload_n 0, 1) := by decide +kernel
theorem dX9_delete_28 : decode cX9_delete 28 = .ok (.iload_n 1, 1) := by decide +kernel
theorem dX9_delete_29 : decode cX9_delete 29 = .ok (.invokevirtual 148, 3) := by decide +kernel
theorem dX9_delete_32 : decode cX9_delete 32 = .ok (.ireturn, 1) := by decide +kernel
theorem dX9_setIndex_0 : decode cX9_setIndex 0 = .ok (.aload_n 0, 1) := by decide +kernel
theorem dX9_setIndex_1 : decode cX9_setIndex 1 = .ok (.aload_n 0, 1) := by decide +kernel
theorem dX9_setIndex_2 : decode cX9_setIndex 2 = .ok (.iload_n 1, 1) := by decide +kernel
theorem dX9_setIndex_3 : decode cX9_setIndex 3 = .ok (.iload_n 2, 1) := by decide +kernel
theorem dX9_setIndex_4 : decode cX9_setIndex 4 = .ok (.invokevirtual 132, 3) := by decide +kernel
theorem dX9_setIndex_7 : decode cX9_setIndex 7 = .ok (.invokevirtual 145, 3) := by decide +kernel
theorem dX9_setIndex_10 : decode cX9_setIndex 10 = .ok (.ifCond .ne 5, 3) := by decide +kernel
theorem dX9_setIndex_13 : decode cX9_setIndex 13 = .ok (.iconst 0, 1) := by decide +kernel
theorem dX9_setIndex_14 : decode cX9_setIndex 14 = .ok (.ireturn, 1) := by decide +kernel
theorem dX9_setIndex_15 : decode cX9_setIndex 15 = .ok (.aload_n 0, 1) := by decide +kernel
theorem dX9_setIndex_16 : decode cX9_setIndex 16 = .ok (.getfield 23, 3) := by decide +kernel
theorem dX9_setIndex_19 : decode cX9_setIndex 19 = .ok (.iconst 3, 1) := by decide +kernel
theorem dX9_setIndex_20 : decode cX9_setIndex 20 = .ok (.iload_n 1, 1) := by decide +kernel
theorem dX9_setIndex_21 : decode cX9_setIndex 21 = .ok (.imul, 1) := by decide +kernel
theorem dX9_setIndex_22 : decode cX9_setIndex 22 = .ok (.iload_n 2, 1) := by decide +kernel
theorem dX9_setIndex_23 : decode cX9_setIndex 23 = .ok (.iadd, 1) := by decide +kernel
theorem dX9_setIndex_24 : decode cX9_setIndex 24 = .ok (.baload, 1) := by decide +kernel
theorem dX9_setIndex_25 : decode cX9_setIndex 25 = .ok (.istore 4, 2) := by decide +kernel
theorem dX9_setIndex_27 : decode cX9_setIndex 27 = .ok (.aload_n 0, 1) := by decide +kernel
theorem dX9_setIndex_28 : decode cX9_setIndex 28 = .ok (.getfield 23, 3) := by decide +kernel
theorem dX9_setIndex_31 : decode cX9_setIndex 31 = .ok (.iconst 3, 1) := by decide +kernel
theorem dX9_setIndex_32 : decode cX9_setIndex 32 = .ok (.iload_n 1, 1) := by decide +kernel
theorem dX9_setIndex_33 : decode cX9_setIndex 33 = .ok (.imul, 1) := by decide +kernel
theorem dX9_setIndex_34 : decode cX9_setIndex 34 = .ok (.iload_n 2, 1) := by decide +kernel
theorem dX9_setIndex_35 : decode cX9_setIndex 35 = .ok (.iadd, 1) := by decide +kernel
theorem dX9_setIndex_36 : decode cX9_setIndex 36 = .ok (.iload_n 3, 1) := by decide +kernel
theorem dX9_setIndex_37 : decode cX9_setIndex 37 = .ok (.bastore, 1) := by decide +kernel
theorem dX9_setIndex_38 : decode cX9_setIndex 38 = .ok (.iload 4, 2) := by decide +kernel
theorem dX9_setIndex_40 : decode cX9_setIndex 40 = .ok (.ireturn, 1) := by decide +kernel
theorem dX9_rows_0 : decode cX9_rows 0 = .ok (.aload_n 0, 1) := by decide +kernel
theorem dX9_rows_1 : decode cX9_rows 1 = .ok (.aload_n 0, 1) := by decide +kernel
theorem dX9_rows_2 : decode cX9_rows 2 = .ok (.iload_n 1, 1) := by decide +kernel
theorem dX9_rows_3 : decode cX9_rows 3 = .ok (.invokevirtual 118, 3) := by decide +kernel
theorem dX9_rows_6 : decode cX9_rows 6 = .ok (.invokevirtual 145, 3) := by decide +kernel
theorem dX9_rows_9 : decode cX9_rows 9 = .ok (.ifCond .eq 11, 3) := by decide +kernel
theorem dX9_rows_12 : decode cX9_rows 12 = .ok (.aload_n 0, 1) := by decide +kernel
theorem dX9_rows_13 : decode cX9_rows 13 = .ok (.iload_n 1, 1) := by decide +kernel
theorem dX9_rows_14 : decode cX9_rows 14 = .ok (.invokevirtual 148, 3) := by decide +kernel
theorem dX9_rows_17 : decode cX9_rows 17 = .ok (.goto 4, 3) := by decide +kernel
theorem dX9_rows_20 : decode cX9_rows 20 = .ok (.iconst 0, 1) := by decide +kernel
theorem dX9_rows_21 : decode cX9_rows 21 = .ok (.ireturn, 1) := by decide +kernel
theorem dX9_valueAt_0 : decode cX9_valueAt 0 = .ok (.aload_n 0, 1) := by decide +kernel
theorem dX9_valueAt_1 : decode cX9_valueAt 1 = .ok (.getfield 20, 3) := by decide +kernel
theorem dX9_valueAt_4 : decode cX9_valueAt 4 = .ok (.iconst 3, 1) := by decide +kernel
theorem dX9_valueAt_5 : decode cX9_valueAt 5 = .ok (.bipush 40, 2) := by decide +kernel
theorem dX9_valueAt_7 : decode cX9_valueAt 7 = .ok (.iload_n 1, 1) := by decide +kernel
theorem dX9_valueAt_8 : decode cX9_valueAt 8 = .ok (.imul, 1) := by decide +kernel
theorem dX9_valueAt_9 : decode cX9_valueAt 9 = .ok (.iload_n 2, 1) := by decide +kernel
theorem dX9_valueAt_10 : decode cX9_valueAt 10 = .ok (.iadd, 1) := by decide +kernel
theorem dX9_valueAt_11 : decode cX9_valueAt 11 = .ok (.imul, 1) := by decide +kernel
theorem dX9_valueAt_12 : decode cX9_valueAt 12 = .ok (.iload_n 3, 1) := by decide +kernel
theorem dX9_valueAt_13 : decode cX9_valueAt 13 = .ok (.iadd, 1) := by decide +kernel
theorem dX9_valueAt_14 : decode cX9_valueAt 14 = .ok (.iaload, 1) := by decide +kernel
theorem dX9_valueAt_15 : decode cX9_valueAt 15 = .ok (.ireturn, 1) := by decide +kernel
theorem dX9_value_0 : decode cX9_value 0 = .ok (.aload_n 0, 1) := by decide +kernel
theorem dX9_value_1 : decode cX9_value 1 = .ok (.iload_n 1, 1) := by decide +kernel
theorem dX9_value_2 : decode cX9_value 2 = .ok (.iload_n 3, 1) := by decide +kernel
theorem dX9_value_3 : decode cX9_value 3 = .ok (.invokevirtual 132, 3) := by decide +kernel
theorem dX9_value_6 : decode cX9_value 6 = .ok (.ifCond .eq 16, 3) := by decide +kernel
theorem dX9_value_9 : decode cX9_value 9 = .ok (.aload_n 0, 1) := by decide +kernel
theorem dX9_value_10 : decode cX9_value 10 = .ok (.iload_n 1, 1) := by decide +kernel
theorem dX9_value_11 : decode cX9_value 11 = .ok (.iload_n 2, 1) := by decide +kernel
theorem dX9_value_12 : decode cX9_value 12 = .ok (.invokevirtual 142, 3) := by decide +kernel
theorem dX9_value_15 : decode cX9_value 15 = .ok (.ifCond .eq 7, 3) := by decide +kernel
theorem dX9_value_18 : decode cX9_value 18 = .ok (.iconst 1, 1) := by decide +kernel
theorem dX9_value_19 : decode cX9_value 19 = .ok (.goto 4, 3) := by decide +kernel
theorem dX9_value_22 : decode cX9_value 22 = .ok (.iconst 0, 1) := by decide +kernel
theorem dX9_value_23 : decode cX9_value 23 = .ok (.istore 4, 2) := by decide +kernel
theorem dX9_value_25 : decode cX9_value 25 = .ok (.aload_n 0, 1) := by decide +kernel
theorem dX9_value_26 : decode cX9_value 26 = .ok (.iload 4, 2) := by decide +kernel
theorem dX9_value_28 : decode cX9_value 28 = .ok (.invokevirtual 145, 3) := by decide +kernel
theorem dX9_value_31 : decode cX9_value 31 = .ok (.ifCond .eq 13, 3) := by decide +kernel
theorem dX9_value_34 : decode cX9_value 34 = .ok (.aload_n 0, 1) := by decide +kernel
theorem dX9_value_35 : decode cX9_value 35 = .ok (.iload_n 1, 1) := by decide +kernel
theorem dX9_value_36 : decode cX9_value 36 = .ok (.iload_n 2, 1) := by decide +kernel
theorem dX9_value_37 : decode cX9_value 37 = .ok (.iload_n 3, 1) := by decide +kernel
theorem dX9_value_38 : decode cX9_value 38 = .ok (.invokevirtual 152, 3) := by decide +kernel
theorem dX9_value_41 : decode cX9_value 41 = .ok (.goto 4, 3) := by decide +kernel
theorem dX9_value_44 : decode cX9_value 44 = .ok (.iconst 0, 1) := by decide +kernel
theorem dX9_value_45 : decode cX9_value 45 = .ok (.ireturn, 1) := by decide +kernel
theorem dX9_sample_0 : decode cX9_sample 0 = .ok (.aload_n 0, 1) := by decide +kernel
theorem dX9_sample_1 : decode cX9_sample 1 = .ok (.iload_n 1, 1) := by decide +kernel
theorem dX9_sample_2 : decode cX9_sample 2 = .ok (.invokevirtual 148, 3) := by decide +kernel
theorem dX9_sample_5 : decode cX9_sample 5 = .ok (.iload_n 2, 1) := by decide +kernel
theorem dX9_sample_6 : decode cX9_sample 6 = .ok (.iadd, 1) := by decide +kernel
theorem dX9_sample_7 : decode cX9_sample 7 = .ok (.iconst 1, 1) := by decide +kernel
theorem dX9_sample_8 : decode cX9_sample 8 = .ok (.isub, 1) := by decide +kernel
theorem dX9_sample_9 : decode cX9_sample 9 = .ok (.iload_n 2, 1) := by decide +kernel
theorem dX9_sample_10 : decode cX9_sample 10 = .ok (.idiv, 1) := by decide +kernel
theorem dX9_sample_11 : decode cX9_sample 11 = .ok (.ireturn, 1) := by decide +kernel
theorem dX9_isSampled_0 : decode cX9_isSampled 0 = .ok (.iconst 0, 1) := by decide +kernel
theorem dX9_isSampled_1 : decode cX9_isSampled 1 = .ok (.istore 4, 2) := by decide +kernel
theorem dX9_isSampled_3 : decode cX9_isSampled 3 = .ok (.iconst 0, 1) := by decide +kernel
theorem dX9_isSampled_4 : decode cX9_isSampled 4 = .ok (.istore 5, 2) := by decide +kernel
theorem dX9_isSampled_6 : decode cX9_isSampled 6 = .ok (.iload 5, 2) := by decide +kernel
theorem dX9_isSampled_8 : decode cX9_isSampled 8 = .ok (.iload_n 2, 1) := by decide +kernel
theorem dX9_isSampled_9 : decode cX9_isSampled 9 = .ok (.if_icmp .ge 34, 3) := by decide +kernel
theorem dX9_isSampled_12 : decode cX9_isSampled 12 = .ok (.iload 4, 2) := by decide +kernel
theorem dX9_isSampled_14 : decode cX9_isSampled 14 = .ok (.aload_n 0, 1) := by decide +kernel
theorem dX9_isSampled_15 : decode cX9_isSampled 15 = .ok (.getfield 16, 3) := by decide +kernel
theorem dX9_isSampled_18 : decode cX9_isSampled 18 = .ok (.bipush 40, 2) := by decide +kernel
theorem dX9_isSampled_20 : decode cX9_isSampled 20 = .ok (.iload_n 1, 1) := by decide +kernel
theorem dX9_isSampled_21 : decode cX9_isSampled 21 = .ok (.imul, 1) := by decide +kernel
theorem dX9_isSampled_22 : decode cX9_isSampled 22 = .ok (.iload 5, 2) := by decide +kernel
theorem dX9_isSampled_24 : decode cX9_isSampled 24 = .ok (.iadd, 1) := by decide +kernel
theorem dX9_isSampled_25 : decode cX9_isSampled 25 = .ok (.baload, 1) := by decide +kernel
theorem dX9_isSampled_26 : decode cX9_isSampled 26 = .ok (.ifCond .eq 7, 3) := by decide +kernel
theorem dX9_isSampled_29 : decode cX9_isSampled 29 = .ok (.iconst 1, 1) := by decide +kernel
theorem dX9_isSampled_30 : decode cX9_isSampled 30 = .ok (.goto 4, 3) := by decide +kernel
theorem dX9_isSampled_33 : decode cX9_isSampled 33 = .ok (.iconst 0, 1) := by decide +kernel
theorem dX9_isSampled_34 : decode cX9_isSampled 34 = .ok (.iadd, 1) := by decide +kernel
theorem dX9_isSampled_35 : decode cX9_isSampled 35 = .ok (.istore 4, 2) := by decide +kernel
theorem dX9_isSampled_37 : decode cX9_isSampled 37 = .ok (.iinc 5 1, 3) := by decide +kernel
theorem dX9_isSampled_40 : decode cX9_isSampled 40 = .ok (.goto (-34), 3) := by decide +kernel
theorem dX9_isSampled_43 : decode cX9_isSampled 43 = .ok (.aload_n 0, 1) := by decide +kernel
theorem dX9_isSampled_44 : decode cX9_isSampled 44 = .ok (.getfield 16, 3) := by decide +kernel
theorem dX9_isSampled_47 : decode cX9_isSampled 47 = .ok (.bipush 40, 2) := by decide +kernel
theorem dX9_isSampled_49 : decode cX9_isSampled 49 = .ok (.iload_n 1, 1) := by decide +kernel
theorem dX9_isSampled_50 : decode cX9_isSampled 50 = .ok (.imul, 1) := by decide +kernel
theorem dX9_isSampled_51 : decode cX9_isSampled 51 = .ok (.iload_n 2, 1) := by decide +kernel
theorem dX9_isSampled_52 : decode cX9_isSampled 52 = .ok (.iadd, 1) := by decide +kernel
theorem dX9_isSampled_53 : decode cX9_isSampled 53 = .ok (.baload, 1) := by decide +kernel
theorem dX9_isSampled_54 : decode cX9_isSampled 54 = .ok (.ifCond .eq 14, 3) := by decide +kernel
theorem dX9_isSampled_57 : decode cX9_isSampled 57 = .ok (.iload 4, 2) := by decide +kernel
theorem dX9_isSampled_59 : decode cX9_isSampled 59 = .ok (.iload_n 3, 1) := by decide +kernel
theorem dX9_isSampled_60 : decode cX9_isSampled 60 = .ok (.irem, 1) := by decide +kernel
theorem dX9_isSampled_61 : decode cX9_isSampled 61 = .ok (.ifCond .ne 7, 3) := by decide +kernel
theorem dX9_isSampled_64 : decode cX9_isSampled 64 = .ok (.iconst 1, 1) := by decide +kernel
theorem dX9_isSampled_65 : decode cX9_isSampled 65 = .ok (.goto 4, 3) := by decide +kernel
theorem dX9_isSampled_68 : decode cX9_isSampled 68 = .ok (.iconst 0, 1) := by decide +kernel
theorem dX9_isSampled_69 : decode cX9_isSampled 69 = .ok (.ireturn, 1) := by decide +kernel
theorem dX9_renews_0 : decode cX9_renews 0 = .ok (.aload_n 0, 1) := by decide +kernel
theorem dX9_renews_1 : decode cX9_renews 1 = .ok (.getfield 26, 3) := by decide +kernel
theorem dX9_renews_4 : decode cX9_renews 4 = .ok (.iload_n 1, 1) := by decide +kernel
theorem dX9_renews_5 : decode cX9_renews 5 = .ok (.aload_n 0, 1) := by decide +kernel
theorem dX9_renews_6 : decode cX9_renews 6 = .ok (.iload_n 1, 1) := by decide +kernel
theorem dX9_renews_7 : decode cX9_renews 7 = .ok (.invokevirtual 148, 3) := by decide +kernel
theorem dX9_renews_10 : decode cX9_renews 10 = .ok (.iastore, 1) := by decide +kernel
theorem dX9_renews_11 : decode cX9_renews 11 = .ok (.iconst 0, 1) := by decide +kernel
theorem dX9_renews_12 : decode cX9_renews 12 = .ok (.istore_n 3, 1) := by decide +kernel
theorem dX9_renews_13 : decode cX9_renews 13 = .ok (.iload_n 3, 1) := by decide +kernel
theorem dX9_renews_14 : decode cX9_renews 14 = .ok (.aload_n 0, 1) := by decide +kernel
theorem dX9_renews_15 : decode cX9_renews 15 = .ok (.getfield 7, 3) := by decide +kernel
theorem dX9_renews_18 : decode cX9_renews 18 = .ok (.iload_n 1, 1) := by decide +kernel
theorem dX9_renews_19 : decode cX9_renews 19 = .ok (.iaload, 1) := by decide +kernel
theorem dX9_renews_20 : decode cX9_renews 20 = .ok (.if_icmp .ge 273, 3) := by decide +kernel
theorem dX9_renews_23 : decode cX9_renews 23 = .ok (.iconst 3, 1) := by decide +kernel
theorem dX9_renews_24 : decode cX9_renews 24 = .ok (.iload_n 1, 1) := by decide +kernel
theorem dX9_renews_25 : decode cX9_renews 25 = .ok (.imul, 1) := by decide +kernel
theorem dX9_renews_26 : decode cX9_renews 26 = .ok (.iload_n 3, 1) := by decide +kernel
theorem dX9_renews_27 : decode cX9_renews 27 = .ok (.iadd, 1) := by decide +kernel
theorem dX9_renews_28 : decode cX9_renews 28 = .ok (.istore 4, 2) := by decide +kernel
theorem dX9_renews_30 : decode cX9_renews 30 = .ok (.aload_n 0, 1) := by decide +kernel
theorem dX9_renews_31 : decode cX9_renews 31 = .ok (.getfield 29, 3) := by decide +kernel
theorem dX9_renews_34 : decode cX9_renews 34 = .ok (.iload 4, 2) := by decide +kernel
theorem dX9_renews_36 : decode cX9_renews 36 = .ok (.iconst 0, 1) := by decide +kernel
theorem dX9_renews_37 : decode cX9_renews 37 = .ok (.iastore, 1) := by decide +kernel
theorem dX9_renews_38 : decode cX9_renews 38 = .ok (.aload_n 0, 1) := by decide +kernel
theorem dX9_renews_39 : decode cX9_renews 39 = .ok (.getfield 32, 3) := by decide +kernel
theorem dX9_renews_42 : decode cX9_renews 42 = .ok (.iload 4, 2) := by decide +kernel
theorem dX9_renews_44 : decode cX9_renews 44 = .ok (.iconst 0, 1) := by decide +kernel
theorem dX9_renews_45 : decode cX9_renews 45 = .ok (.iastore, 1) := by decide +kernel
theorem dX9_renews_46 : decode cX9_renews 46 = .ok (.aload_n 0, 1) := by decide +kernel
theorem dX9_renews_47 : decode cX9_renews 47 = .ok (.getfield 35, 3) := by decide +kernel
theorem dX9_renews_50 : decode cX9_renews 50 = .ok (.iload 4, 2) := by decide +kernel
theorem dX9_renews_52 : decode cX9_renews 52 = .ok (.iconst 0, 1) := by decide +kernel
theorem dX9_renews_53 : decode cX9_renews 53 = .ok (.iastore, 1) := by decide +kernel
theorem dX9_renews_54 : decode cX9_renews 54 = .ok (.iconst 0, 1) := by decide +kernel
theorem dX9_renews_55 : decode cX9_renews 55 = .ok (.istore 5, 2) := by decide +kernel
theorem dX9_renews_57 : decode cX9_renews 57 = .ok (.iconst 0, 1) := by decide +kernel
theorem dX9_renews_58 : decode cX9_renews 58 = .ok (.istore 6, 2) := by decide +kernel
theorem dX9_renews_60 : decode cX9_renews 60 = .ok (.iload 6, 2) := by decide +kernel
theorem dX9_renews_62 : decode cX9_renews 62 = .ok (.aload_n 0, 1) := by decide +kernel
theorem dX9_renews_63 : decode cX9_renews 63 = .ok (.getfield 13, 3) := by decide +kernel
theorem dX9_renews_66 : decode cX9_renews 66 = .ok (.iload_n 1, 1) := by decide +kernel
theorem dX9_renews_67 : decode cX9_renews 67 = .ok (.iaload, 1) := by decide +kernel
theorem dX9_renews_68 : decode cX9_renews 68 = .ok (.if_icmp .ge 180, 3) := by decide +kernel
theorem dX9_renews_71 : decode cX9_renews 71 = .ok (.aload_n 0, 1) := by decide +kernel
theorem dX9_renews_72 : decode cX9_renews 72 = .ok (.iload_n 1, 1) := by decide +kernel
theorem dX9_renews_73 : decode cX9_renews 73 = .ok (.iload 6, 2) := by decide +kernel
theorem dX9_renews_75 : decode cX9_renews 75 = .ok (.iload_n 2, 1) := by decide +kernel
theorem dX9_renews_76 : decode cX9_renews 76 = .ok (.invokevirtual 156, 3) := by decide +kernel
theorem dX9_renews_79 : decode cX9_renews 79 = .ok (.ifCond .eq 163, 3) := by decide +kernel
theorem dX9_renews_82 : decode cX9_renews 82 = .ok (.aload_n 0, 1) := by decide +kernel
theorem dX9_renews_83 : decode cX9_renews 83 = .ok (.iload_n 1, 1) := by decide +kernel
theorem dX9_renews_84 : decode cX9_renews 84 = .ok (.iload 6, 2) := by decide +kernel
theorem dX9_renews_86 : decode cX9_renews 86 = .ok (.iload_n 3, 1) := by decide +kernel
theorem dX9_renews_87 : decode cX9_renews 87 = .ok (.invokevirtual 152, 3) := by decide +kernel
theorem dX9_renews_90 : decode cX9_renews 90 = .ok (.istore 7, 2) := by decide +kernel
theorem dX9_renews_92 : decode cX9_renews 92 = .ok (.aload_n 0, 1) := by decide +kernel
theorem dX9_renews_93 : decode cX9_renews 93 = .ok (.getfield 32, 3) := by decide +kernel
theorem dX9_renews_96 : decode cX9_renews 96 = .ok (.iload 4, 2) := by decide +kernel
theorem dX9_renews_98 : decode cX9_renews 98 = .ok (.iload 5, 2) := by decide +kernel
theorem dX9_renews_100 : decode cX9_renews 100 = .ok (.ifCond .eq 15, 3) := by decide +kernel
theorem dX9_renews_103 : decode cX9_renews 103 = .ok (.iload 7, 2) := by decide +kernel
theorem dX9_renews_105 : decode cX9_renews 105 = .ok (.aload_n 0, 1) := by decide +kernel
theorem dX9_renews_106 : decode cX9_renews 106 = .ok (.getfield 32, 3) := by decide +kernel
theorem dX9_renews_109 : decode cX9_renews 109 = .ok (.iload 4, 2) := by decide +kernel
theorem dX9_renews_111 : decode cX9_renews 111 = .ok (.iaload, 1) := by decide +kernel
theorem dX9_renews_112 : decode cX9_renews 112 = .ok (.if_icmp .ge 8, 3) := by decide +kernel
theorem dX9_renews_115 : decode cX9_renews 115 = .ok (.iload 7, 2) := by decide +kernel
theorem dX9_renews_117 : decode cX9_renews 117 = .ok (.goto 10, 3) := by decide +kernel
theorem dX9_renews_120 : decode cX9_renews 120 = .ok (.aload_n 0, 1) := by decide +kernel
theorem dX9_renews_121 : decode cX9_renews 121 = .ok (.getfield 32, 3) := by decide +kernel
theorem dX9_renews_124 : decode cX9_renews 124 = .ok (.iload 4, 2) := by decide +kernel
theorem dX9_renews_126 : decode cX9_renews 126 = .ok (.iaload, 1) := by decide +kernel
theorem dX9_renews_127 : decode cX9_renews 127 = .ok (.iastore, 1) := by decide +kernel
theorem dX9_renews_128 : decode cX9_renews 128 = .ok (.aload_n 0, 1) := by decide +kernel
theorem dX9_renews_129 : decode cX9_renews 129 = .ok (.getfield 35, 3) := by decide +kernel
theorem dX9_renews_132 : decode cX9_renews 132 = .ok (.iload 4, 2) := by decide +kernel
theorem dX9_renews_134 : decode cX9_renews 134 = .ok (.iload 5, 2) := by decide +kernel
theorem dX9_renews_136 : decode cX9_renews 136 = .ok (.ifCond .eq 15, 3) := by decide +kernel
theorem dX9_renews_139 : decode cX9_renews 139 = .ok (.iload 7, 2) := by decide +kernel
theorem dX9_renews_141 : decode cX9_renews 141 = .ok (.aload_n 0, 1) := by decide +kernel
theorem dX9_renews_142 : decode cX9_renews 142 = .ok (.getfield 35, 3) := by decide +kernel
theorem dX9_renews_145 : decode cX9_renews 145 = .ok (.iload 4, 2) := by decide +kernel
theorem dX9_renews_147 : decode cX9_renews 147 = .ok (.iaload, 1) := by decide +kernel
theorem dX9_renews_148 : decode cX9_renews 148 = .ok (.if_icmp .le 8, 3) := by decide +kernel
theorem dX9_renews_151 : decode cX9_renews 151 = .ok (.iload 7, 2) := by decide +kernel
theorem dX9_renews_153 : decode cX9_renews 153 = .ok (.goto 10, 3) := by decide +kernel
theorem dX9_renews_156 : decode cX9_renews 156 = .ok (.aload_n 0, 1) := by decide +kernel
theorem dX9_renews_157 : decode cX9_renews 157 = .ok (.getfield 35, 3) := by decide +kernel
theorem dX9_renews_160 : decode cX9_renews 160 = .ok (.iload 4, 2) := by decide +kernel
theorem dX9_renews_162 : decode cX9_renews 162 = .ok (.iaload, 1) := by decide +kernel
theorem dX9_renews_163 : decode cX9_renews 163 = .ok (.iastore, 1) := by decide +kernel
theorem dX9_renews_164 : decode cX9_renews 164 = .ok (.iconst 1, 1) := by decide +kernel
theorem dX9_renews_165 : decode cX9_renews 165 = .ok (.istore 5, 2) := by decide +kernel
theorem dX9_renews_167 : decode cX9_renews 167 = .ok (.iconst 1, 1) := by decide +kernel
theorem dX9_renews_168 : decode cX9_renews 168 = .ok (.istore 8, 2) := by decide +kernel
theorem dX9_renews_170 : decode cX9_renews 170 = .ok (.iconst 0, 1) := by decide +kernel
theorem dX9_renews_171 : decode cX9_renews 171 = .ok (.istore 9, 2) := by decide +kernel
theorem dX9_renews_173 : decode cX9_renews 173 = .ok (.iload 9, 2) := by decide +kernel
theorem dX9_renews_175 : decode cX9_renews 175 = .ok (.iload 6, 2) := by decide +kernel
theorem dX9_renews_177 : decode cX9_renews 177 = .ok (.if_icmp .ge 45, 3) := by decide +kernel
theorem dX9_renews_180 : decode cX9_renews 180 = .ok (.iload 8, 2) := by decide +kernel
theorem dX9_renews_182 : decode cX9_renews 182 = .ok (.ifCond .eq 31, 3) := by decide +kernel
theorem dX9_renews_185 : decode cX9_renews 185 = .ok (.aload_n 0, 1) := by decide +kernel
theorem dX9_renews_186 : decode cX9_renews 186 = .ok (.iload_n 1, 1) := by decide +kernel
theorem dX9_renews_187 : decode cX9_renews 187 = .ok (.iload 9, 2) := by decide +kernel
theorem dX9_renews_189 : decode cX9_renews 189 = .ok (.iload_n 2, 1) := by decide +kernel
theorem dX9_renews_190 : decode cX9_renews 190 = .ok (.invokevirtual 156, 3) := by decide +kernel
theorem dX9_renews_193 : decode cX9_renews 193 = .ok (.ifCond .eq 16, 3) := by decide +kernel
theorem dX9_renews_196 : decode cX9_renews 196 = .ok (.aload_n 0, 1) := by decide +kernel
theorem dX9_renews_197 : decode cX9_renews 197 = .ok (.iload_n 1, 1) := by decide +kernel
theorem dX9_renews_198 : decode cX9_renews 198 = .ok (.iload 9, 2) := by decide +kernel
theorem dX9_renews_200 : decode cX9_renews 200 = .ok (.iload_n 3, 1) := by decide +kernel
theorem dX9_renews_201 : decode cX9_renews 201 = .ok (.invokevirtual 152, 3) := by decide +kernel
theorem dX9_renews_204 : decode cX9_renews 204 = .ok (.iload 7, 2) := by decide +kernel
theorem dX9_renews_206 : decode cX9_renews 206 = .ok (.if_icmp .eq 7, 3) := by decide +kernel
theorem dX9_renews_209 : decode cX9_renews 209 = .ok (.iconst 1, 1) := by decide +kernel
theorem dX9_renews_210 : decode cX9_renews 210 = .ok (.goto 4, 3) := by decide +kernel
theorem dX9_renews_213 : decode cX9_renews 213 = .ok (.iconst 0, 1) := by decide +kernel
theorem dX9_renews_214 : decode cX9_renews 214 = .ok (.istore 8, 2) := by decide +kernel
theorem dX9_renews_216 : decode cX9_renews 216 = .ok (.iinc 9 1, 3) := by decide +kernel
theorem dX9_renews_219 : decode cX9_renews 219 = .ok (.goto (-46), 3) := by decide +kernel
theorem dX9_renews_222 : decode cX9_renews 222 = .ok (.aload_n 0, 1) := by decide +kernel
theorem dX9_renews_223 : decode cX9_renews 223 = .ok (.getfield 29, 3) := by decide +kernel
theorem dX9_renews_226 : decode cX9_renews 226 = .ok (.iload 4, 2) := by decide +kernel
theorem dX9_renews_228 : decode cX9_renews 228 = .ok (.dup2, 1) := by decide +kernel
theorem dX9_renews_229 : decode cX9_renews 229 = .ok (.iaload, 1) := by decide +kernel
theorem dX9_renews_230 : decode cX9_renews 230 = .ok (.iload 8, 2) := by decide +kernel
theorem dX9_renews_232 : decode cX9_renews 232 = .ok (.ifCond .eq 7, 3) := by decide +kernel
theorem dX9_renews_235 : decode cX9_renews 235 = .ok (.iload_n 2, 1) := by decide +kernel
theorem dX9_renews_236 : decode cX9_renews 236 = .ok (.goto 4, 3) := by decide +kernel
theorem dX9_renews_239 : decode cX9_renews 239 = .ok (.iconst 0, 1) := by decide +kernel
theorem dX9_renews_240 : decode cX9_renews 240 = .ok (.iadd, 1) := by decide +kernel
theorem dX9_renews_241 : decode cX9_renews 241 = .ok (.iastore, 1) := by decide +kernel
theorem dX9_renews_242 : decode cX9_renews 242 = .ok (.iinc 6 1, 3) := by decide +kernel
theorem dX9_renews_245 : decode cX9_renews 245 = .ok (.goto (-185), 3) := by decide +kernel
theorem dX9_renews_248 : decode cX9_renews 248 = .ok (.aload_n 0, 1) := by decide +kernel
theorem dX9_renews_249 : decode cX9_renews 249 = .ok (.getfield 29, 3) := by decide +kernel
theorem dX9_renews_252 : decode cX9_renews 252 = .ok (.iload 4, 2) := by decide +kernel
theorem dX9_renews_254 : decode cX9_renews 254 = .ok (.aload_n 0, 1) := by decide +kernel
theorem dX9_renews_255 : decode cX9_renews 255 = .ok (.getfield 29, 3) := by decide +kernel
theorem dX9_renews_258 : decode cX9_renews 258 = .ok (.iload 4, 2) := by decide +kernel
theorem dX9_renews_260 : decode cX9_renews 260 = .ok (.iaload, 1) := by decide +kernel
theorem dX9_renews_261 : decode cX9_renews 261 = .ok (.aload_n 0, 1) := by decide +kernel
theorem dX9_renews_262 : decode cX9_renews 262 = .ok (.getfield 26, 3) := by decide +kernel
theorem dX9_renews_265 : decode cX9_renews 265 = .ok (.iload_n 1, 1) := by decide +kernel
theorem dX9_renews_266 : decode cX9_renews 266 = .ok (.iaload, 1) := by decide +kernel
theorem dX9_renews_267 : decode cX9_renews 267 = .ok (.if_icmp .le 12, 3) := by decide +kernel
theorem dX9_renews_270 : decode cX9_renews 270 = .ok (.aload_n 0, 1) := by decide +kernel
theorem dX9_renews_271 : decode cX9_renews 271 = .ok (.getfield 26, 3) := by decide +kernel
theorem dX9_renews_274 : decode cX9_renews 274 = .ok (.iload_n 1, 1) := by decide +kernel
theorem dX9_renews_275 : decode cX9_renews 275 = .ok (.iaload, 1) := by decide +kernel
theorem dX9_renews_276 : decode cX9_renews 276 = .ok (.goto 10, 3) := by decide +kernel
theorem dX9_renews_279 : decode cX9_renews 279 = .ok (.aload_n 0, 1) := by decide +kernel
theorem dX9_renews_280 : decode cX9_renews 280 = .ok (.getfield 29, 3) := by decide +kernel
theorem dX9_renews_283 : decode cX9_renews 283 = .ok (.iload 4, 2) := by decide +kernel
theorem dX9_renews_285 : decode cX9_renews 285 = .ok (.iaload, 1) := by decide +kernel
theorem dX9_renews_286 : decode cX9_renews 286 = .ok (.iastore, 1) := by decide +kernel
theorem dX9_renews_287 : decode cX9_renews 287 = .ok (.iinc 3 1, 3) := by decide +kernel
theorem dX9_renews_290 : decode cX9_renews 290 = .ok (.goto (-277), 3) := by decide +kernel
theorem dX9_renews_293 : decode cX9_renews 293 = .ok (.return_, 1) := by decide +kernel
theorem dX9_renew_0 : decode cX9_renew 0 = .ok (.aload_n 0, 1) := by decide +kernel
theorem dX9_renew_1 : decode cX9_renew 1 = .ok (.aload_n 0, 1) := by decide +kernel
theorem dX9_renew_2 : decode cX9_renew 2 = .ok (.iload_n 1, 1) := by decide +kernel
theorem dX9_renew_3 : decode cX9_renew 3 = .ok (.invokevirtual 118, 3) := by decide +kernel
theorem dX9_renew_6 : decode cX9_renew 6 = .ok (.iload_n 2, 1) := by decide +kernel
theorem dX9_renew_7 : decode cX9_renew 7 = .ok (.iconst 1, 1) := by decide +kernel
theorem dX9_renew_8 : decode cX9_renew 8 = .ok (.bipush 10, 2) := by decide +kernel
theorem dX9_renew_10 : decode cX9_renew 10 = .ok (.invokestatic 114, 3) := by decide +kernel
theorem dX9_renew_13 : decode cX9_renew 13 = .ok (.invokevirtual 135, 3) := by decide +kernel
theorem dX9_renew_16 : decode cX9_renew 16 = .ok (.ifCond .ne 5, 3) := by decide +kernel
theorem dX9_renew_19 : decode cX9_renew 19 = .ok (.iconst 0, 1) := by decide +kernel
theorem dX9_renew_20 : decode cX9_renew 20 = .ok (.ireturn, 1) := by decide +kernel
theorem dX9_renew_21 : decode cX9_renew 21 = .ok (.aload_n 0, 1) := by decide +kernel
theorem dX9_renew_22 : decode cX9_renew 22 = .ok (.iload_n 1, 1) := by decide +kernel
theorem dX9_renew_23 : decode cX9_renew 23 = .ok (.iload_n 2, 1) := by decide +kernel
theorem dX9_renew_24 : decode cX9_renew 24 = .ok (.invokevirtual 159, 3) := by decide +kernel
theorem dX9_renew_27 : decode cX9_renew 27 = .ok (.aload_n 0, 1) := by decide +kernel
theorem dX9_renew_28 : decode cX9_renew 28 = .ok (.iload_n 1, 1) := by decide +kernel
theorem dX9_renew_29 : decode cX9_renew 29 = .ok (.iload_n 2, 1) := by decide +kernel
theorem dX9_renew_30 : decode cX9_renew 30 = .ok (.invokevirtual 163, 3) := by decide +kernel
theorem dX9_renew_33 : decode cX9_renew 33 = .ok (.ireturn, 1) := by decide +kernel
theorem dX9_setStep_0 : decode cX9_setStep 0 = .ok (.aload_n 0, 1) := by decide +kernel
theorem dX9_setStep_1 : decode cX9_setStep 1 = .ok (.iload_n 1, 1) := by decide +kernel
theorem dX9_setStep_2 : decode cX9_setStep 2 = .ok (.iconst 1, 1) := by decide +kernel
theorem dX9_setStep_3 : decode cX9_setStep 3 = .ok (.bipush 10, 2) := by decide +kernel
theorem dX9_setStep_5 : decode cX9_setStep 5 = .ok (.invokestatic 114, 3) := by decide +kernel
theorem dX9_setStep_8 : decode cX9_setStep 8 = .ok (.invokevirtual 145, 3) := by decide +kernel
theorem dX9_setStep_11 : decode cX9_setStep 11 = .ok (.ifCond .ne 5, 3) := by decide +kernel
theorem dX9_setStep_14 : decode cX9_setStep 14 = .ok (.iconst 0, 1) := by decide +kernel
theorem dX9_setStep_15 : decode cX9_setStep 15 = .ok (.ireturn, 1) := by decide +kernel
theorem dX9_setStep_16 : decode cX9_setStep 16 = .ok (.aload_n 0, 1) := by decide +kernel
theorem dX9_setStep_17 : decode cX9_setStep 17 = .ok (.getfield 41, 3) := by decide +kernel
theorem dX9_setStep_20 : decode cX9_setStep 20 = .ok (.istore_n 2, 1) := by decide +kernel
theorem dX9_setStep_21 : decode cX9_setStep 21 = .ok (.aload_n 0, 1) := by decide +kernel
theorem dX9_setStep_22 : decode cX9_setStep 22 = .ok (.iload_n 1, 1) := by decide +kernel
theorem dX9_setStep_23 : decode cX9_setStep 23 = .ok (.putfield 41, 3) := by decide +kernel
theorem dX9_setStep_26 : decode cX9_setStep 26 = .ok (.iload_n 2, 1) := by decide +kernel
theorem dX9_setStep_27 : decode cX9_setStep 27 = .ok (.ireturn, 1) := by decide +kernel
theorem dX9_toldRows_0 : decode cX9_toldRows 0 = .ok (.aload_n 0, 1) := by decide +kernel
theorem dX9_toldRows_1 : decode cX9_toldRows 1 = .ok (.aload_n 0, 1) := by decide +kernel
theorem dX9_toldRows_2 : decode cX9_toldRows 2 = .ok (.iload_n 1, 1) := by decide +kernel
theorem dX9_toldRows_3 : decode cX9_toldRows 3 = .ok (.invokevirtual 118, 3) := by decide +kernel
theorem dX9_toldRows_6 : decode cX9_toldRows 6 = .ok (.invokevirtual 145, 3) := by decide +kernel
theorem dX9_toldRows_9 : decode cX9_toldRows 9 = .ok (.ifCond .eq 12, 3) := by decide +kernel
theorem dX9_toldRows_12 : decode cX9_toldRows 12 = .ok (.aload_n 0, 1) := by decide +kernel
theorem dX9_toldRows_13 : decode cX9_toldRows 13 = .ok (.getfield 26, 3) := by decide +kernel
theorem dX9_toldRows_16 : decode cX9_toldRows 16 = .ok (.iload_n 1, 1) := by decide +kernel
theorem dX9_toldRows_17 : decode cX9_toldRows 17 = .ok (.iaload, 1) := by decide +kernel
theorem dX9_toldRows_18 : decode cX9_toldRows 18 = .ok (.goto 4, 3) := by decide +kernel
theorem dX9_toldRows_21 : decode cX9_toldRows 21 = .ok (.iconst 0, 1) := by decide +kernel
theorem dX9_toldRows_22 : decode cX9_toldRows 22 = .ok (.ireturn, 1) := by decide +kernel
theorem dX9_unlike_0 : decode cX9_unlike 0 = .ok (.aload_n 0, 1) := by decide +kernel
theorem dX9_unlike_1 : decode cX9_unlike 1 = .ok (.aload_n 0, 1) := by decide +kernel
theorem dX9_unlike_2 : decode cX9_unlike 2 = .ok (.iload_n 1, 1) := by decide +kernel
theorem dX9_unlike_3 : decode cX9_unlike 3 = .ok (.iload_n 2, 1) := by decide +kernel
theorem dX9_unlike_4 : decode cX9_unlike 4 = .ok (.invokevirtual 132, 3) := by decide +kernel
theorem dX9_unlike_7 : decode cX9_unlike 7 = .ok (.invokevirtual 145, 3) := by decide +kernel
theorem dX9_unlike_10 : decode cX9_unlike 10 = .ok (.ifCond .eq 16, 3) := by decide +kernel
theorem dX9_unlike_13 : decode cX9_unlike 13 = .ok (.aload_n 0, 1) := by decide +kernel
theorem dX9_unlike_14 : decode cX9_unlike 14 = .ok (.getfield 29, 3) := by decide +kernel
theorem dX9_unlike_17 : decode cX9_unlike 17 = .ok (.iconst 3, 1) := by decide +kernel
theorem dX9_unlike_18 : decode cX9_unlike 18 = .ok (.iload_n 1, 1) := by decide +kernel
theorem dX9_unlike_19 : decode cX9_unlike 19 = .ok (.imul, 1) := by decide +kernel
theorem dX9_unlike_20 : decode cX9_unlike 20 = .ok (.iload_n 2, 1) := by decide +kernel
theorem dX9_unlike_21 : decode cX9_unlike 21 = .ok (.iadd, 1) := by decide +kernel
theorem dX9_unlike_22 : decode cX9_unlike 22 = .ok (.iaload, 1) := by decide +kernel
theorem dX9_unlike_23 : decode cX9_unlike 23 = .ok (.goto 4, 3) := by decide +kernel
theorem dX9_unlike_26 : decode cX9_unlike 26 = .ok (.iconst 0, 1) := by decide +kernel
theorem dX9_unlike_27 : decode cX9_unlike 27 = .ok (.ireturn, 1) := by decide +kernel
theorem dX9_least_0 : decode cX9_least 0 = .ok (.aload_n 0, 1) := by decide +kernel
theorem dX9_least_1 : decode cX9_least 1 = .ok (.aload_n 0, 1) := by decide +kernel
theorem dX9_least_2 : decode cX9_least 2 = .ok (.iload_n 1, 1) := by decide +kernel
theorem dX9_least_3 : decode cX9_least 3 = .ok (.iload_n 2, 1) := by decide +kernel
theorem dX9_least_4 : decode cX9_least 4 = .ok (.invokevirtual 132, 3) := by decide +kernel
theorem dX9_least_7 : decode cX9_least 7 = .ok (.invokevirtual 145, 3) := by decide +kernel
theorem dX9_least_10 : decode cX9_least 10 = .ok (.ifCond .eq 16, 3) := by decide +kernel
theorem dX9_least_13 : decode cX9_least 13 = .ok (.aload_n 0, 1) := by decide +kernel
theorem dX9_least_14 : decode cX9_least 14 = .ok (.getfield 32, 3) := by decide +kernel
theorem dX9_least_17 : decode cX9_least 17 = .ok (.iconst 3, 1) := by decide +kernel
theorem dX9_least_18 : decode cX9_least 18 = .ok (.iload_n 1, 1) := by decide +kernel
theorem dX9_least_19 : decode cX9_least 19 = .ok (.imul, 1) := by decide +kernel
theorem dX9_least_20 : decode cX9_least 20 = .ok (.iload_n 2, 1) := by decide +kernel
theorem dX9_least_21 : decode cX9_least 21 = .ok (.iadd, 1) := by decide +kernel
theorem dX9_least_22 : decode cX9_least 22 = .ok (.iaload, 1) := by decide +kernel
theorem dX9_least_23 : decode cX9_least 23 = .ok (.goto 4, 3) := by decide +kernel
theorem dX9_least_26 : decode cX9_least 26 = .ok (.iconst 0, 1) := by decide +kernel
theorem dX9_least_27 : decode cX9_least 27 = .ok (.ireturn, 1) := by decide +kernel
theorem dX9_greatest_0 : decode cX9_greatest 0 = .ok (.aload_n 0, 1) := by decide +kernel
theorem dX9_greatest_1 : decode cX9_greatest 1 = .ok (.aload_n 0, 1) := by decide +kernel
theorem dX9_greatest_2 : decode cX9_greatest 2 = .ok (.iload_n 1, 1) := by decide +kernel
theorem dX9_greatest_3 : decode cX9_greatest 3 = .ok (.iload_n 2, 1) := by decide +kernel
theorem dX9_greatest_4 : decode cX9_greatest 4 = .ok (.invokevirtual 132, 3) := by decide +kernel
theorem dX9_greatest_7 : decode cX9_greatest 7 = .ok (.invokevirtual 145, 3) := by decide +kernel
theorem dX9_greatest_10 : decode cX9_greatest 10 = .ok (.ifCond .eq 16, 3) := by decide +kernel
theorem dX9_greatest_13 : decode cX9_greatest 13 = .ok (.aload_n 0, 1) := by decide +kernel
theorem dX9_greatest_14 : decode cX9_greatest 14 = .ok (.getfield 35, 3) := by decide +kernel
theorem dX9_greatest_17 : decode cX9_greatest 17 = .ok (.iconst 3, 1) := by decide +kernel
theorem dX9_greatest_18 : decode cX9_greatest 18 = .ok (.iload_n 1, 1) := by decide +kernel
theorem dX9_greatest_19 : decode cX9_greatest 19 = .ok (.imul, 1) := by decide +kernel
theorem dX9_greatest_20 : decode cX9_greatest 20 = .ok (.iload_n 2, 1) := by decide +kernel
theorem dX9_greatest_21 : decode cX9_greatest 21 = .ok (.iadd, 1) := by decide +kernel
theorem dX9_greatest_22 : decode cX9_greatest 22 = .ok (.iaload, 1) := by decide +kernel
theorem dX9_greatest_23 : decode cX9_greatest 23 = .ok (.goto 4, 3) := by decide +kernel
theorem dX9_greatest_26 : decode cX9_greatest 26 = .ok (.iconst 0, 1) := by decide +kernel
theorem dX9_greatest_27 : decode cX9_greatest 27 = .ok (.ireturn, 1) := by decide +kernel
theorem dX9_isMarked_0 : decode cX9_isMarked 0 = .ok (.aload_n 0, 1) := by decide +kernel
theorem dX9_isMarked_1 : decode cX9_isMarked 1 = .ok (.aload_n 0, 1) := by decide +kernel
theorem dX9_isMarked_2 : decode cX9_isMarked 2 = .ok (.iload_n 1, 1) := by decide +kernel
theorem dX9_isMarked_3 : decode cX9_isMarked 3 = .ok (.invokevirtual 118, 3) := by decide +kernel
theorem dX9_isMarked_6 : decode cX9_isMarked 6 = .ok (.invokevirtual 145, 3) := by decide +kernel
theorem dX9_isMarked_9 : decode cX9_isMarked 9 = .ok (.ifCond .eq 16, 3) := by decide +kernel
theorem dX9_isMarked_12 : decode cX9_isMarked 12 = .ok (.aload_n 0, 1) := by decide +kernel
theorem dX9_isMarked_13 : decode cX9_isMarked 13 = .ok (.getfield 38, 3) := by decide +kernel
theorem dX9_isMarked_16 : decode cX9_isMarked 16 = .ok (.iload_n 1, 1) := by decide +kernel
theorem dX9_isMarked_17 : decode cX9_isMarked 17 = .ok (.baload, 1) := by decide +kernel
theorem dX9_isMarked_18 : decode cX9_isMarked 18 = .ok (.ifCond .eq 7, 3) := by decide +kernel
theorem dX9_isMarked_21 : decode cX9_isMarked 21 = .ok (.iconst 1, 1) := by decide +kernel
theorem dX9_isMarked_22 : decode cX9_isMarked 22 = .ok (.goto 4, 3) := by decide +kernel
theorem dX9_isMarked_25 : decode cX9_isMarked 25 = .ok (.iconst 0, 1) := by decide +kernel
theorem dX9_isMarked_26 : decode cX9_isMarked 26 = .ok (.ireturn, 1) := by decide +kernel
theorem dX9_addReport_0 : decode cX9_addReport 0 = .ok (.aload_n 0, 1) := by decide +kernel
theorem dX9_addReport_1 : decode cX9_addReport 1 = .ok (.iload_n 1, 1) := by decide +kernel
theorem dX9_addReport_2 : decode cX9_addReport 2 = .ok (.iconst 0, 1) := by decide +kernel
theorem dX9_addReport_3 : decode cX9_addReport 3 = .ok (.sipush 1000, 3) := by decide +kernel
theorem dX9_addReport_6 : decode cX9_addReport 6 = .ok (.invokestatic 114, 3) := by decide +kernel
theorem dX9_addReport_9 : decode cX9_addReport 9 = .ok (.aload_n 0, 1) := by decide +kernel
theorem dX9_addReport_10 : decode cX9_addReport 10 = .ok (.getfield 122, 3) := by decide +kernel
theorem dX9_addReport_13 : decode cX9_addReport 13 = .ok (.bipush 8, 2) := by decide +kernel
theorem dX9_addReport_15 : decode cX9_addReport 15 = .ok (.if_icmp .ge 7, 3) := by decide +kernel
theorem dX9_addReport_18 : decode cX9_addReport 18 = .ok (.iconst 1, 1) := by decide +kernel
theorem dX9_addReport_19 : decode cX9_addReport 19 = .ok (.goto 4, 3) := by decide +kernel
theorem dX9_addReport_22 : decode cX9_addReport 22 = .ok (.iconst 0, 1) := by decide +kernel
theorem dX9_addReport_23 : decode cX9_addReport 23 = .ok (.invokevirtual 135, 3) := by decide +kernel
theorem dX9_addReport_26 : decode cX9_addReport 26 = .ok (.ifCond .ne 5, 3) := by decide +kernel
theorem dX9_addReport_29 : decode cX9_addReport 29 = .ok (.iconst 0, 1) := by decide +kernel
theorem dX9_addReport_30 : decode cX9_addReport 30 = .ok (.ireturn, 1) := by decide +kernel
theorem dX9_addReport_31 : decode cX9_addReport 31 = .ok (.aload_n 0, 1) := by decide +kernel
theorem dX9_addReport_32 : decode cX9_addReport 32 = .ok (.getfield 45, 3) := by decide +kernel
theorem dX9_addReport_35 : decode cX9_addReport 35 = .ok (.aload_n 0, 1) := by decide +kernel
theorem dX9_addReport_36 : decode cX9_addReport 36 = .ok (.getfield 122, 3) := by decide +kernel
theorem dX9_addReport_39 : decode cX9_addReport 39 = .ok (.iload_n 1, 1) := by decide +kernel
theorem dX9_addReport_40 : decode cX9_addReport 40 = .ok (.iastore, 1) := by decide +kernel
theorem dX9_addReport_41 : decode cX9_addReport 41 = .ok (.aload_n 0, 1) := by decide +kernel
theorem dX9_addReport_42 : decode cX9_addReport 42 = .ok (.getfield 78, 3) := by decide +kernel
theorem dX9_addReport_45 : decode cX9_addReport 45 = .ok (.aload_n 0, 1) := by decide +kernel
theorem dX9_addReport_46 : decode cX9_addReport 46 = .ok (.getfield 122, 3) := by decide +kernel
theorem dX9_addReport_49 : decode cX9_addReport 49 = .ok (.iconst (-1), 1) := by decide +kernel
theorem dX9_addReport_50 : decode cX9_addReport 50 = .ok (.iastore, 1) := by decide +kernel
theorem dX9_addReport_51 : decode cX9_addReport 51 = .ok (.aload_n 0, 1) := by decide +kernel
theorem dX9_addReport_52 : decode cX9_addReport 52 = .ok (.getfield 84, 3) := by decide +kernel
theorem dX9_addReport_55 : decode cX9_addReport 55 = .ok (.aload_n 0, 1) := by decide +kernel
theorem dX9_addReport_56 : decode cX9_addReport 56 = .ok (.getfield 122, 3) := by decide +kernel
theorem dX9_addReport_59 : decode cX9_addReport 59 = .ok (.iconst (-1), 1) := by decide +kernel
theorem dX9_addReport_60 : decode cX9_addReport 60 = .ok (.iastore, 1) := by decide +kernel
theorem dX9_addReport_61 : decode cX9_addReport 61 = .ok (.aload_n 0, 1) := by decide +kernel
theorem dX9_addReport_62 : decode cX9_addReport 62 = .ok (.getfield 87, 3) := by decide +kernel
theorem dX9_addReport_65 : decode cX9_addReport 65 = .ok (.aload_n 0, 1) := by decide +kernel
theorem dX9_addReport_66 : decode cX9_addReport 66 = .ok (.getfield 122, 3) := by decide +kernel
theorem dX9_addReport_69 : decode cX9_addReport 69 = .ok (.iconst (-1), 1) := by decide +kernel
theorem dX9_addReport_70 : decode cX9_addReport 70 = .ok (.iastore, 1) := by decide +kernel
theorem dX9_addReport_71 : decode cX9_addReport 71 = .ok (.aload_n 0, 1) := by decide +kernel
theorem dX9_addReport_72 : decode cX9_addReport 72 = .ok (.getfield 90, 3) := by decide +kernel
theorem dX9_addReport_75 : decode cX9_addReport 75 = .ok (.aload_n 0, 1) := by decide +kernel
theorem dX9_addReport_76 : decode cX9_addReport 76 = .ok (.getfield 122, 3) := by decide +kernel
theorem dX9_addReport_79 : decode cX9_addReport 79 = .ok (.iconst (-1), 1) := by decide +kernel
theorem dX9_addReport_80 : decode cX9_addReport 80 = .ok (.iastore, 1) := by decide +kernel
theorem dX9_addReport_81 : decode cX9_addReport 81 = .ok (.aload_n 0, 1) := by decide +kernel
theorem dX9_addReport_82 : decode cX9_addReport 82 = .ok (.dup, 1) := by decide +kernel
theorem dX9_addReport_83 : decode cX9_addReport 83 = .ok (.getfield 122, 3) := by decide +kernel
theorem dX9_addReport_86 : decode cX9_addReport 86 = .ok (.iconst 1, 1) := by decide +kernel
theorem dX9_addReport_87 : decode cX9_addReport 87 = .ok (.iadd, 1) := by decide +kernel
theorem dX9_addReport_88 : decode cX9_addReport 88 = .ok (.putfield 122, 3) := by decide +kernel
theorem dX9_addReport_91 : decode cX9_addReport 91 = .ok (.aload_n 0, 1) := by decide +kernel
theorem dX9_addReport_92 : decode cX9_addReport 92 = .ok (.getfield 122, 3) := by decide +kernel
theorem dX9_addReport_95 : decode cX9_addReport 95 = .ok (.iconst 1, 1) := by decide +kernel
theorem dX9_addReport_96 : decode cX9_addReport 96 = .ok (.isub, 1) := by decide +kernel
theorem dX9_addReport_97 : decode cX9_addReport 97 = .ok (.ireturn, 1) := by decide +kernel
theorem dX9_addSource_0 : decode cX9_addSource 0 = .ok (.aload_n 0, 1) := by decide +kernel
theorem dX9_addSource_1 : decode cX9_addSource 1 = .ok (.iload_n 1, 1) := by decide +kernel
theorem dX9_addSource_2 : decode cX9_addSource 2 = .ok (.invokevirtual 125, 3) := by decide +kernel
theorem dX9_addSource_5 : decode cX9_addSource 5 = .ok (.ifCond .eq 15, 3) := by decide +kernel
theorem dX9_addSource_8 : decode cX9_addSource 8 = .ok (.aload_n 0, 1) := by decide +kernel
theorem dX9_addSource_9 : decode cX9_addSource 9 = .ok (.iload_n 2, 1) := by decide +kernel
theorem dX9_addSource_10 : decode cX9_addSource 10 = .ok (.invokevirtual 118, 3) := by decide +kernel
theorem dX9_addSource_13 : decode cX9_addSource 13 = .ok (.ifCond .eq 7, 3) := by decide +kernel
theorem dX9_addSource_16 : decode cX9_addSource 16 = .ok (.iconst 1, 1) := by decide +kernel
theorem dX9_addSource_17 : decode cX9_addSource 17 = .ok (.goto 4, 3) := by decide +kernel
theorem dX9_addSource_20 : decode cX9_addSource 20 = .ok (.iconst 0, 1) := by decide +kernel
theorem dX9_addSource_21 : decode cX9_addSource 21 = .ok (.istore_n 3, 1) := by decide +kernel
theorem dX9_addSource_22 : decode cX9_addSource 22 = .ok (.aload_n 0, 1) := by decide +kernel
theorem dX9_addSource_23 : decode cX9_addSource 23 = .ok (.iload_n 3, 1) := by decide +kernel
theorem dX9_addSource_24 : decode cX9_addSource 24 = .ok (.iload_n 3, 1) := by decide +kernel
theorem dX9_addSource_25 : decode cX9_addSource 25 = .ok (.ifCond .eq 17, 3) := by decide +kernel
theorem dX9_addSource_28 : decode cX9_addSource 28 = .ok (.aload_n 0, 1) := by decide +kernel
theorem dX9_addSource_29 : decode cX9_addSource 29 = .ok (.getfield 51, 3) := by decide +kernel
theorem dX9_addSource_32 : decode cX9_addSource 32 = .ok (.iload_n 1, 1) := by decide +kernel
theorem dX9_addSource_33 : decode cX9_addSource 33 = .ok (.iaload, 1) := by decide +kernel
theorem dX9_addSource_34 : decode cX9_addSource 34 = .ok (.iconst 3, 1) := by decide +kernel
theorem dX9_addSource_35 : decode cX9_addSource 35 = .ok (.if_icmp .ge 7, 3) := by decide +kernel
theorem dX9_addSource_38 : decode cX9_addSource 38 = .ok (.iconst 1, 1) := by decide +kernel
theorem dX9_addSource_39 : decode cX9_addSource 39 = .ok (.goto 4, 3) := by decide +kernel
theorem dX9_addSource_42 : decode cX9_addSource 42 = .ok (.iconst 0, 1) := by decide +kernel
theorem dX9_addSource_43 : decode cX9_addSource 43 = .ok (.invokevirtual 135, 3) := by decide +kernel
theorem dX9_addSource_46 : decode cX9_addSource 46 = .ok (.ifCond .ne 5, 3) := by decide +kernel
theorem dX9_addSource_49 : decode cX9_addSource 49 = .ok (.iconst 0, 1) := by decide +kernel
theorem dX9_addSource_50 : decode cX9_addSource 50 = .ok (.ireturn, 1) := by decide +kernel
theorem dX9_addSource_51 : decode cX9_addSource 51 = .ok (.aload_n 0, 1) := by decide +kernel
theorem dX9_addSource_52 : decode cX9_addSource 52 = .ok (.getfield 54, 3) := by decide +kernel
theorem dX9_addSource_55 : decode cX9_addSource 55 = .ok (.iconst 3, 1) := by decide +kernel
theorem dX9_addSource_56 : decode cX9_addSource 56 = .ok (.iload_n 1, 1) := by decide +kernel
theorem dX9_addSource_57 : decode cX9_addSource 57 = .ok (.imul, 1) := by decide +kernel
theorem dX9_addSource_58 : decode cX9_addSource 58 = .ok (.aload_n 0, 1) := by decide +kernel
theorem dX9_addSource_59 : decode cX9_addSource 59 = .ok (.getfield 51, 3) := by decide +kernel
theorem dX9_addSource_62 : decode cX9_addSource 62 = .ok (.iload_n 1, 1) := by decide +kernel
theorem dX9_addSource_63 : decode cX9_addSource 63 = .ok (.iaload, 1) := by decide +kernel
theorem dX9_addSource_64 : decode cX9_addSource 64 = .ok (.iadd, 1) := by decide +kernel
theorem dX9_addSource_65 : decode cX9_addSource 65 = .ok (.iload_n 2, 1) := by decide +kernel
theorem dX9_addSource_66 : decode cX9_addSource 66 = .ok (.iastore, 1) := by decide +kernel
theorem dX9_addSource_67 : decode cX9_addSource 67 = .ok (.aload_n 0, 1) := by decide +kernel
theorem dX9_addSource_68 : decode cX9_addSource 68 = .ok (.getfield 51, 3) := by decide +kernel
theorem dX9_addSource_71 : decode cX9_addSource 71 = .ok (.iload_n 1, 1) := by decide +kernel
theorem dX9_addSource_72 : decode cX9_addSource 72 = .ok (.dup2, 1) := by decide +kernel
theorem dX9_addSource_73 : decode cX9_addSource 73 = .ok (.iaload, 1) := by decide +kernel
theorem dX9_addSource_74 : decode cX9_addSource 74 = .ok (.iconst 1, 1) := by decide +kernel
theorem dX9_addSource_75 : decode cX9_addSource 75 = .ok (.iadd, 1) := by decide +kernel
theorem dX9_addSource_76 : decode cX9_addSource 76 = .ok (.iastore, 1) := by decide +kernel
theorem dX9_addSource_77 : decode cX9_addSource 77 = .ok (.aload_n 0, 1) := by decide +kernel
theorem dX9_addSource_78 : decode cX9_addSource 78 = .ok (.getfield 51, 3) := by decide +kernel
theorem dX9_addSource_81 : decode cX9_addSource 81 = .ok (.iload_n 1, 1) := by decide +kernel
theorem dX9_addSource_82 : decode cX9_addSource 82 = .ok (.iaload, 1) := by decide +kernel
theorem dX9_addSource_83 : decode cX9_addSource 83 = .ok (.iconst 1, 1) := by decide +kernel
theorem dX9_addSource_84 : decode cX9_addSource 84 = .ok (.isub, 1) := by decide +kernel
theorem dX9_addSource_85 : decode cX9_addSource 85 = .ok (.ireturn, 1) := by decide +kernel
theorem dX9_adds_0 : decode cX9_adds 0 = .ok (.bipush 6, 2) := by decide +kernel
theorem dX9_adds_2 : decode cX9_adds 2 = .ok (.iload_n 1, 1) := by decide +kernel
theorem dX9_adds_3 : decode cX9_adds 3 = .ok (.imul, 1) := by decide +kernel
theorem dX9_adds_4 : decode cX9_adds 4 = .ok (.aload_n 0, 1) := by decide +kernel
theorem dX9_adds_5 : decode cX9_adds 5 = .ok (.getfield 57, 3) := by decide +kernel
theorem dX9_adds_8 : decode cX9_adds 8 = .ok (.iload_n 1, 1) := by decide +kernel
theorem dX9_adds_9 : decode cX9_adds 9 = .ok (.iaload, 1) := by decide +kernel
theorem dX9_adds_10 : decode cX9_adds 10 = .ok (.iadd, 1) := by decide +kernel
theorem dX9_adds_11 : decode cX9_adds 11 = .ok (.istore 5, 2) := by decide +kernel
theorem dX9_adds_13 : decode cX9_adds 13 = .ok (.aload_n 0, 1) := by decide +kernel
theorem dX9_adds_14 : decode cX9_adds 14 = .ok (.getfield 60, 3) := by decide +kernel
theorem dX9_adds_17 : decode cX9_adds 17 = .ok (.iload 5, 2) := by decide +kernel
theorem dX9_adds_19 : decode cX9_adds 19 = .ok (.iload_n 2, 1) := by decide +kernel
theorem dX9_adds_20 : decode cX9_adds 20 = .ok (.iastore, 1) := by decide +kernel
theorem dX9_adds_21 : decode cX9_adds 21 = .ok (.aload_n 0, 1) := by decide +kernel
theorem dX9_adds_22 : decode cX9_adds 22 = .ok (.getfield 63, 3) := by decide +kernel
theorem dX9_adds_25 : decode cX9_adds 25 = .ok (.iload 5, 2) := by decide +kernel
theorem dX9_adds_27 : decode cX9_adds 27 = .ok (.iload_n 3, 1) := by decide +kernel
theorem dX9_adds_28 : decode cX9_adds 28 = .ok (.iastore, 1) := by decide +kernel
theorem dX9_adds_29 : decode cX9_adds 29 = .ok (.aload_n 0, 1) := by decide +kernel
theorem dX9_adds_30 : decode cX9_adds 30 = .ok (.getfield 66, 3) := by decide +kernel
theorem dX9_adds_33 : decode cX9_adds 33 = .ok (.iload 5, 2) := by decide +kernel
theorem dX9_adds_35 : decode cX9_adds 35 = .ok (.iload 4, 2) := by decide +kernel
theorem dX9_adds_37 : decode cX9_adds 37 = .ok (.iastore, 1) := by decide +kernel
theorem dX9_adds_38 : decode cX9_adds 38 = .ok (.aload_n 0, 1) := by decide +kernel
theorem dX9_adds_39 : decode cX9_adds 39 = .ok (.getfield 57, 3) := by decide +kernel
theorem dX9_adds_42 : decode cX9_adds 42 = .ok (.iload_n 1, 1) := by decide +kernel
theorem dX9_adds_43 : decode cX9_adds 43 = .ok (.dup2, 1) := by decide +kernel
theorem dX9_adds_44 : decode cX9_adds 44 = .ok (.iaload, 1) := by decide +kernel
theorem dX9_adds_45 : decode cX9_adds 45 = .ok (.iconst 1, 1) := by decide +kernel
theorem dX9_adds_46 : decode cX9_adds 46 = .ok (.iadd, 1) := by decide +kernel
theorem dX9_adds_47 : decode cX9_adds 47 = .ok (.iastore, 1) := by decide +kernel
theorem dX9_adds_48 : decode cX9_adds 48 = .ok (.aload_n 0, 1) := by decide +kernel
theorem dX9_adds_49 : decode cX9_adds 49 = .ok (.getfield 57, 3) := by decide +kernel
theorem dX9_adds_52 : decode cX9_adds 52 = .ok (.iload_n 1, 1) := by decide +kernel
theorem dX9_adds_53 : decode cX9_adds 53 = .ok (.iaload, 1) := by decide +kernel
theorem dX9_adds_54 : decode cX9_adds 54 = .ok (.iconst 1, 1) := by decide +kernel
theorem dX9_adds_55 : decode cX9_adds 55 = .ok (.isub, 1) := by decide +kernel
theorem dX9_adds_56 : decode cX9_adds 56 = .ok (.ireturn, 1) := by decide +kernel
theorem dX9_addCondition_0 : decode cX9_addCondition 0 = .ok (.aload_n 0, 1) := by decide +kernel
theorem dX9_addCondition_1 : decode cX9_addCondition 1 = .ok (.iload_n 1, 1) := by decide +kernel
theorem dX9_addCondition_2 : decode cX9_addCondition 2 = .ok (.iload_n 2, 1) := by decide +kernel
theorem dX9_addCondition_3 : decode cX9_addCondition 3 = .ok (.iload_n 3, 1) := by decide +kernel
theorem dX9_addCondition_4 : decode cX9_addCondition 4 = .ok (.invokevirtual 167, 3) := by decide +kernel
theorem dX9_addCondition_7 : decode cX9_addCondition 7 = .ok (.istore 6, 2) := by decide +kernel
theorem dX9_addCondition_9 : decode cX9_addCondition 9 = .ok (.aload_n 0, 1) := by decide +kernel
theorem dX9_addCondition_10 : decode cX9_addCondition 10 = .ok (.iload 6, 2) := by decide +kernel
theorem dX9_addCondition_12 : decode cX9_addCondition 12 = .ok (.iload 4, 2) := by decide +kernel
theorem dX9_addCondition_14 : decode cX9_addCondition 14 = .ok (.iconst 0, 1) := by decide +kernel
theorem dX9_addCondition_15 : decode cX9_addCondition 15 = .ok (.iconst 2, 1) := by decide +kernel
theorem dX9_addCondition_16 : decode cX9_addCondition 16 = .ok (.invokestatic 114, 3) := by decide +kernel
theorem dX9_addCondition_19 : decode cX9_addCondition 19 = .ok (.ifCond .eq 19, 3) := by decide +kernel
theorem dX9_addCondition_22 : decode cX9_addCondition 22 = .ok (.iload 5, 2) := by decide +kernel
theorem dX9_addCondition_24 : decode cX9_addCondition 24 = .ok (.iconst 0, 1) := by decide +kernel
theorem dX9_addCondition_25 : decode cX9_addCondition 25 = .ok (.sipush 999, 3) := by decide +kernel
theorem dX9_addCondition_28 : decode cX9_addCondition 28 = .ok (.invokestatic 114, 3) := by decide +kernel
theorem dX9_addCondition_31 : decode cX9_addCondition 31 = .ok (.ifCond .eq 7, 3) := by decide +kernel
theorem dX9_addCondition_34 : decode cX9_addCondition 34 = .ok (.iconst 1, 1) := by decide +kernel
theorem dX9_addCondition_35 : decode cX9_addCondition 35 = .ok (.goto 4, 3) := by decide +kernel
theorem dX9_addCondition_38 : decode cX9_addCondition 38 = .ok (.iconst 0, 1) := by decide +kernel
theorem dX9_addCondition_39 : decode cX9_addCondition 39 = .ok (.iload 6, 2) := by decide +kernel
theorem dX9_addCondition_41 : decode cX9_addCondition 41 = .ok (.ifCond .eq 18, 3) := by decide +kernel
theorem dX9_addCondition_44 : decode cX9_addCondition 44 = .ok (.aload_n 0, 1) := by decide +kernel
theorem dX9_addCondition_45 : decode cX9_addCondition 45 = .ok (.getfield 57, 3) := by decide +kernel
theorem dX9_addCondition_48 : decode cX9_addCondition 48 = .ok (.iload_n 1, 1) := by decide +kernel
theorem dX9_addCondition_49 : decode cX9_addCondition 49 = .ok (.iaload, 1) := by decide +kernel
theorem dX9_addCondition_50 : decode cX9_addCondition 50 = .ok (.bipush 6, 2) := by decide +kernel
theorem dX9_addCondition_52 : decode cX9_addCondition 52 = .ok (.if_icmp .ge 7, 3) := by decide +kernel
theorem dX9_addCondition_55 : decode cX9_addCondition 55 = .ok (.iconst 1, 1) := by decide +kernel
theorem dX9_addCondition_56 : decode cX9_addCondition 56 = .ok (.goto 4, 3) := by decide +kernel
theorem dX9_addCondition_59 : decode cX9_addCondition 59 = .ok (.iconst 0, 1) := by decide +kernel
theorem dX9_addCondition_60 : decode cX9_addCondition 60 = .ok (.invokevirtual 139, 3) := by decide +kernel
theorem dX9_addCondition_63 : decode cX9_addCondition 63 = .ok (.ifCond .ne 5, 3) := by decide +kernel
theorem dX9_addCondition_66 : decode cX9_addCondition 66 = .ok (.iconst 0, 1) := by decide +kernel
theorem dX9_addCondition_67 : decode cX9_addCondition 67 = .ok (.ireturn, 1) := by decide +kernel
theorem dX9_addCondition_68 : decode cX9_addCondition 68 = .ok (.aload_n 0, 1) := by decide +kernel
theorem dX9_addCondition_69 : decode cX9_addCondition 69 = .ok (.getfield 69, 3) := by decide +kernel
theorem dX9_addCondition_72 : decode cX9_addCondition 72 = .ok (.bipush 6, 2) := by decide +kernel
theorem dX9_addCondition_74 : decode cX9_addCondition 74 = .ok (.iload_n 1, 1) := by decide +kernel
theorem dX9_addCondition_75 : decode cX9_addCondition 75 = .ok (.imul, 1) := by decide +kernel
theorem dX9_addCondition_76 : decode cX9_addCondition 76 = .ok (.aload_n 0, 1) := by decide +kernel
theorem dX9_addCondition_77 : decode cX9_addCondition 77 = .ok (.getfield 57, 3) := by decide +kernel
theorem dX9_addCondition_80 : decode cX9_addCondition 80 = .ok (.iload_n 1, 1) := by decide +kernel
theorem dX9_addCondition_81 : decode cX9_addCondition 81 = .ok (.iaload, 1) := by decide +kernel
theorem dX9_addCondition_82 : decode cX9_addCondition 82 = .ok (.iadd, 1) := by decide +kernel
theorem dX9_addCondition_83 : decode cX9_addCondition 83 = .ok (.iload 5, 2) := by decide +kernel
theorem dX9_addCondition_85 : decode cX9_addCondition 85 = .ok (.iastore, 1) := by decide +kernel
theorem dX9_addCondition_86 : decode cX9_addCondition 86 = .ok (.aload_n 0, 1) := by decide +kernel
theorem dX9_addCondition_87 : decode cX9_addCondition 87 = .ok (.iload_n 1, 1) := by decide +kernel
theorem dX9_addCondition_88 : decode cX9_addCondition 88 = .ok (.iload 4, 2) := by decide +kernel
theorem dX9_addCondition_90 : decode cX9_addCondition 90 = .ok (.iload_n 2, 1) := by decide +kernel
theorem dX9_addCondition_91 : decode cX9_addCondition 91 = .ok (.iload_n 3, 1) := by decide +kernel
theorem dX9_addCondition_92 : decode cX9_addCondition 92 = .ok (.invokevirtual 170, 3) := by decide +kernel
theorem dX9_addCondition_95 : decode cX9_addCondition 95 = .ok (.ireturn, 1) := by decide +kernel
theorem dX9_addJoin_0 : decode cX9_addJoin 0 = .ok (.aload_n 0, 1) := by decide +kernel
theorem dX9_addJoin_1 : decode cX9_addJoin 1 = .ok (.iload_n 1, 1) := by decide +kernel
theorem dX9_addJoin_2 : decode cX9_addJoin 2 = .ok (.iload_n 2, 1) := by decide +kernel
theorem dX9_addJoin_3 : decode cX9_addJoin 3 = .ok (.iload_n 3, 1) := by decide +kernel
theorem dX9_addJoin_4 : decode cX9_addJoin 4 = .ok (.invokevirtual 167, 3) := by decide +kernel
theorem dX9_addJoin_7 : decode cX9_addJoin 7 = .ok (.ifCond .eq 19, 3) := by decide +kernel
theorem dX9_addJoin_10 : decode cX9_addJoin 10 = .ok (.aload_n 0, 1) := by decide +kernel
theorem dX9_addJoin_11 : decode cX9_addJoin 11 = .ok (.iload_n 1, 1) := by decide +kernel
theorem dX9_addJoin_12 : decode cX9_addJoin 12 = .ok (.iload 4, 2) := by decide +kernel
theorem dX9_addJoin_14 : decode cX9_addJoin 14 = .ok (.iload 5, 2) := by decide +kernel
theorem dX9_addJoin_16 : decode cX9_addJoin 16 = .ok (.invokevirtual 167, 3) := by decide +kernel
theorem dX9_addJoin_19 : decode cX9_addJoin 19 = .ok (.ifCond .eq 7, 3) := by decide +kernel
theorem dX9_addJoin_22 : decode cX9_addJoin 22 = .ok (.iconst 1, 1) := by decide +kernel
theorem dX9_addJoin_23 : decode cX9_addJoin 23 = .ok (.goto 4, 3) := by decide +kernel
theorem dX9_addJoin_26 : decode cX9_addJoin 26 = .ok (.iconst 0, 1) := by decide +kernel
theorem dX9_addJoin_27 : decode cX9_addJoin 27 = .ok (.istore 6, 2) := by decide +kernel
theorem dX9_addJoin_29 : decode cX9_addJoin 29 = .ok (.aload_n 0, 1) := by decide +kernel
theorem dX9_addJoin_30 : decode cX9_addJoin 30 = .ok (.iload 6, 2) := by decide +kernel
theorem dX9_addJoin_32 : decode cX9_addJoin 32 = .ok (.iload_n 2, 1) := by decide +kernel
theorem dX9_addJoin_33 : decode cX9_addJoin 33 = .ok (.iload 4, 2) := by decide +kernel
theorem dX9_addJoin_35 : decode cX9_addJoin 35 = .ok (.if_icmp .eq 7, 3) := by decide +kernel
theorem dX9_addJoin_38 : decode cX9_addJoin 38 = .ok (.iconst 1, 1) := by decide +kernel
theorem dX9_addJoin_39 : decode cX9_addJoin 39 = .ok (.goto 4, 3) := by decide +kernel
theorem dX9_addJoin_42 : decode cX9_addJoin 42 = .ok (.iconst 0, 1) := by decide +kernel
theorem dX9_addJoin_43 : decode cX9_addJoin 43 = .ok (.iload 6, 2) := by decide +kernel
theorem dX9_addJoin_45 : decode cX9_addJoin 45 = .ok (.ifCond .eq 18, 3) := by decide +kernel
theorem dX9_addJoin_48 : decode cX9_addJoin 48 = .ok (.aload_n 0, 1) := by decide +kernel
theorem dX9_addJoin_49 : decode cX9_addJoin 49 = .ok (.getfield 57, 3) := by decide +kernel
theorem dX9_addJoin_52 : decode cX9_addJoin 52 = .ok (.iload_n 1, 1) := by decide +kernel
theorem dX9_addJoin_53 : decode cX9_addJoin 53 = .ok (.iaload, 1) := by decide +kernel
theorem dX9_addJoin_54 : decode cX9_addJoin 54 = .ok (.bipush 6, 2) := by decide +kernel
theorem dX9_addJoin_56 : decode cX9_addJoin 56 = .ok (.if_icmp .ge 7, 3) := by decide +kernel
theorem dX9_addJoin_59 : decode cX9_addJoin 59 = .ok (.iconst 1, 1) := by decide +kernel
theorem dX9_addJoin_60 : decode cX9_addJoin 60 = .ok (.goto 4, 3) := by decide +kernel
theorem dX9_addJoin_63 : decode cX9_addJoin 63 = .ok (.iconst 0, 1) := by decide +kernel
theorem dX9_addJoin_64 : decode cX9_addJoin 64 = .ok (.invokevirtual 139, 3) := by decide +kernel
theorem dX9_addJoin_67 : decode cX9_addJoin 67 = .ok (.ifCond .ne 5, 3) := by decide +kernel
theorem dX9_addJoin_70 : decode cX9_addJoin 70 = .ok (.iconst 0, 1) := by decide +kernel
theorem dX9_addJoin_71 : decode cX9_addJoin 71 = .ok (.ireturn, 1) := by decide +kernel
theorem dX9_addJoin_72 : decode cX9_addJoin 72 = .ok (.aload_n 0, 1) := by decide +kernel
theorem dX9_addJoin_73 : decode cX9_addJoin 73 = .ok (.getfield 72, 3) := by decide +kernel
theorem dX9_addJoin_76 : decode cX9_addJoin 76 = .ok (.bipush 6, 2) := by decide +kernel
theorem dX9_addJoin_78 : decode cX9_addJoin 78 = .ok (.iload_n 1, 1) := by decide +kernel
theorem dX9_addJoin_79 : decode cX9_addJoin 79 = .ok (.imul, 1) := by decide +kernel
theorem dX9_addJoin_80 : decode cX9_addJoin 80 = .ok (.aload_n 0, 1) := by decide +kernel
theorem dX9_addJoin_81 : decode cX9_addJoin 81 = .ok (.getfield 57, 3) := by decide +kernel
theorem dX9_addJoin_84 : decode cX9_addJoin 84 = .ok (.iload_n 1, 1) := by decide +kernel
theorem dX9_addJoin_85 : decode cX9_addJoin 85 = .ok (.iaload, 1) := by decide +kernel
theorem dX9_addJoin_86 : decode cX9_addJoin 86 = .ok (.iadd, 1) := by decide +kernel
theorem dX9_addJoin_87 : decode cX9_addJoin 87 = .ok (.iload 4, 2) := by decide +kernel
theorem dX9_addJoin_89 : decode cX9_addJoin 89 = .ok (.iastore, 1) := by decide +kernel
theorem dX9_addJoin_90 : decode cX9_addJoin 90 = .ok (.aload_n 0, 1) := by decide +kernel
theorem dX9_addJoin_91 : decode cX9_addJoin 91 = .ok (.getfield 75, 3) := by decide +kernel
theorem dX9_addJoin_94 : decode cX9_addJoin 94 = .ok (.bipush 6, 2) := by decide +kernel
theorem dX9_addJoin_96 : decode cX9_addJoin 96 = .ok (.iload_n 1, 1) := by decide +kernel
theorem dX9_addJoin_97 : decode cX9_addJoin 97 = .ok (.imul, 1) := by decide +kernel
theorem dX9_addJoin_98 : decode cX9_addJoin 98 = .ok (.aload_n 0, 1) := by decide +kernel
theorem dX9_addJoin_99 : decode cX9_addJoin 99 = .ok (.getfield 57, 3) := by decide +kernel
theorem dX9_addJoin_102 : decode cX9_addJoin 102 = .ok (.iload_n 1, 1) := by decide +kernel
theorem dX9_addJoin_103 : decode cX9_addJoin 103 = .ok (.iaload, 1) := by decide +kernel
theorem dX9_addJoin_104 : decode cX9_addJoin 104 = .ok (.iadd, 1) := by decide +kernel
theorem dX9_addJoin_105 : decode cX9_addJoin 105 = .ok (.iload 5, 2) := by decide +kernel
theorem dX9_addJoin_107 : decode cX9_addJoin 107 = .ok (.iastore, 1) := by decide +kernel
theorem dX9_addJoin_108 : decode cX9_addJoin 108 = .ok (.aload_n 0, 1) := by decide +kernel
theorem dX9_addJoin_109 : decode cX9_addJoin 109 = .ok (.iload_n 1, 1) := by decide +kernel
theorem dX9_addJoin_110 : decode cX9_addJoin 110 = .ok (.iconst 3, 1) := by decide +kernel
theorem dX9_addJoin_111 : decode cX9_addJoin 111 = .ok (.iload_n 2, 1) := by decide +kernel
theorem dX9_addJoin_112 : decode cX9_addJoin 112 = .ok (.iload_n 3, 1) := by decide +kernel
theorem dX9_addJoin_113 : decode cX9_addJoin 113 = .ok (.invokevirtual 170, 3) := by decide +kernel
theorem dX9_addJoin_116 : decode cX9_addJoin 116 = .ok (.ireturn, 1) := by decide +kernel
theorem dX9_dropCondition_0 : decode cX9_dropCondition 0 = .ok (.aload_n 0, 1) := by decide +kernel
theorem dX9_dropCondition_1 : decode cX9_dropCondition 1 = .ok (.iload_n 1, 1) := by decide +kernel
theorem dX9_dropCondition_2 : decode cX9_dropCondition 2 = .ok (.invokevirtual 125, 3) := by decide +kernel
theorem dX9_dropCondition_5 : decode cX9_dropCondition 5 = .ok (.istore_n 2, 1) := by decide +kernel
theorem dX9_dropCondition_6 : decode cX9_dropCondition 6 = .ok (.aload_n 0, 1) := by decide +kernel
theorem dX9_dropCondition_7 : decode cX9_dropCondition 7 = .ok (.iload_n 2, 1) := by decide +kernel
theorem dX9_dropCondition_8 : decode cX9_dropCondition 8 = .ok (.iload_n 2, 1) := by decide +kernel
theorem dX9_dropCondition_9 : decode cX9_dropCondition 9 = .ok (.ifCond .eq 16, 3) := by decide +kernel
theorem dX9_dropCondition_12 : decode cX9_dropCondition 12 = .ok (.aload_n 0, 1) := by decide +kernel
theorem dX9_dropCondition_13 : decode cX9_dropCondition 13 = .ok (.getfield 57, 3) := by decide +kernel
theorem dX9_dropCondition_16 : decode cX9_dropCondition 16 = .ok (.iload_n 1, 1) := by decide +kernel
theorem dX9_dropCondition_17 : decode cX9_dropCondition 17 = .ok (.iaload, 1) := by decide +kernel
theorem dX9_dropCondition_18 : decode cX9_dropCondition 18 = .ok (.ifCond .le 7, 3) := by decide +kernel
theorem dX9_dropCondition_21 : decode cX9_dropCondition 21 = .ok (.iconst 1, 1) := by decide +kernel
theorem dX9_dropCondition_22 : decode cX9_dropCondition 22 = .ok (.goto 4, 3) := by decide +kernel
theorem dX9_dropCondition_25 : decode cX9_dropCondition 25 = .ok (.iconst 0, 1) := by decide +kernel
theorem dX9_dropCondition_26 : decode cX9_dropCondition 26 = .ok (.invokevirtual 135, 3) := by decide +kernel
theorem dX9_dropCondition_29 : decode cX9_dropCondition 29 = .ok (.ifCond .ne 5, 3) := by decide +kernel
theorem dX9_dropCondition_32 : decode cX9_dropCondition 32 = .ok (.iconst 0, 1) := by decide +kernel
theorem dX9_dropCondition_33 : decode cX9_dropCondition 33 = .ok (.ireturn, 1) := by decide +kernel
theorem dX9_dropCondition_34 : decode cX9_dropCondition 34 = .ok (.aload_n 0, 1) := by decide +kernel
theorem dX9_dropCondition_35 : decode cX9_dropCondition 35 = .ok (.getfield 57, 3) := by decide +kernel
theorem dX9_dropCondition_38 : decode cX9_dropCondition 38 = .ok (.iload_n 1, 1) := by decide +kernel
theorem dX9_dropCondition_39 : decode cX9_dropCondition 39 = .ok (.dup2, 1) := by decide +kernel
theorem dX9_dropCondition_40 : decode cX9_dropCondition 40 = .ok (.iaload, 1) := by decide +kernel
theorem dX9_dropCondition_41 : decode cX9_dropCondition 41 = .ok (.iconst 1, 1) := by decide +kernel
theorem dX9_dropCondition_42 : decode cX9_dropCondition 42 = .ok (.isub, 1) := by decide +kernel
theorem dX9_dropCondition_43 : decode cX9_dropCondition 43 = .ok (.iastore, 1) := by decide +kernel
theorem dX9_dropCondition_44 : decode cX9_dropCondition 44 = .ok (.aload_n 0, 1) := by decide +kernel
theorem dX9_dropCondition_45 : decode cX9_dropCondition 45 = .ok (.getfield 57, 3) := by decide +kernel
theorem dX9_dropCondition_48 : decode cX9_dropCondition 48 = .ok (.iload_n 1, 1) := by decide +kernel
theorem dX9_dropCondition_49 : decode cX9_dropCondition 49 = .ok (.iaload, 1) := by decide +kernel
theorem dX9_dropCondition_50 : decode cX9_dropCondition 50 = .ok (.ireturn, 1) := by decide +kernel
theorem dX9_setSum_0 : decode cX9_setSum 0 = .ok (.aload_n 0, 1) := by decide +kernel
theorem dX9_setSum_1 : decode cX9_setSum 1 = .ok (.aload_n 0, 1) := by decide +kernel
theorem dX9_setSum_2 : decode cX9_setSum 2 = .ok (.iload_n 1, 1) := by decide +kernel
theorem dX9_setSum_3 : decode cX9_setSum 3 = .ok (.invokevirtual 125, 3) := by decide +kernel
theorem dX9_setSum_6 : decode cX9_setSum 6 = .ok (.ifCond .eq 22, 3) := by decide +kernel
theorem dX9_setSum_9 : decode cX9_setSum 9 = .ok (.iload_n 2, 1) := by decide +kernel
theorem dX9_setSum_10 : decode cX9_setSum 10 = .ok (.iconst (-1), 1) := by decide +kernel
theorem dX9_setSum_11 : decode cX9_setSum 11 = .ok (.if_icmp .eq 13, 3) := by decide +kernel
theorem dX9_setSum_14 : decode cX9_setSum 14 = .ok (.aload_n 0, 1) := by decide +kernel
theorem dX9_setSum_15 : decode cX9_setSum 15 = .ok (.iload_n 1, 1) := by decide +kernel
theorem dX9_setSum_16 : decode cX9_setSum 16 = .ok (.iload_n 2, 1) := by decide +kernel
theorem dX9_setSum_17 : decode cX9_setSum 17 = .ok (.iload_n 3, 1) := by decide +kernel
theorem dX9_setSum_18 : decode cX9_setSum 18 = .ok (.invokevirtual 167, 3) := by decide +kernel
theorem dX9_setSum_21 : decode cX9_setSum 21 = .ok (.ifCond .eq 7, 3) := by decide +kernel
theorem dX9_setSum_24 : decode cX9_setSum 24 = .ok (.iconst 1, 1) := by decide +kernel
theorem dX9_setSum_25 : decode cX9_setSum 25 = .ok (.goto 4, 3) := by decide +kernel
theorem dX9_setSum_28 : decode cX9_setSum 28 = .ok (.iconst 0, 1) := by decide +kernel
theorem dX9_setSum_29 : decode cX9_setSum 29 = .ok (.invokevirtual 145, 3) := by decide +kernel
theorem dX9_setSum_32 : decode cX9_setSum 32 = .ok (.ifCond .eq 17, 3) := by decide +kernel
theorem dX9_setSum_35 : decode cX9_setSum 35 = .ok (.aload_n 0, 1) := by decide +kernel
theorem dX9_setSum_36 : decode cX9_setSum 36 = .ok (.getfield 78, 3) := by decide +kernel
theorem dX9_setSum_39 : decode cX9_setSum 39 = .ok (.iload_n 1, 1) := by decide +kernel
theorem dX9_setSum_40 : decode cX9_setSum 40 = .ok (.iload_n 2, 1) := by decide +kernel
theorem dX9_setSum_41 : decode cX9_setSum 41 = .ok (.iastore, 1) := by decide +kernel
theorem dX9_setSum_42 : decode cX9_setSum 42 = .ok (.aload_n 0, 1) := by decide +kernel
theorem dX9_setSum_43 : decode cX9_setSum 43 = .ok (.getfield 81, 3) := by decide +kernel
theorem dX9_setSum_46 : decode cX9_setSum 46 = .ok (.iload_n 1, 1) := by decide +kernel
theorem dX9_setSum_47 : decode cX9_setSum 47 = .ok (.iload_n 3, 1) := by decide +kernel
theorem dX9_setSum_48 : decode cX9_setSum 48 = .ok (.iastore, 1) := by decide +kernel
theorem dX9_setSum_49 : decode cX9_setSum 49 = .ok (.return_, 1) := by decide +kernel
theorem dX9_setDue_0 : decode cX9_setDue 0 = .ok (.aload_n 0, 1) := by decide +kernel
theorem dX9_setDue_1 : decode cX9_setDue 1 = .ok (.aload_n 0, 1) := by decide +kernel
theorem dX9_setDue_2 : decode cX9_setDue 2 = .ok (.iload_n 1, 1) := by decide +kernel
theorem dX9_setDue_3 : decode cX9_setDue 3 = .ok (.invokevirtual 125, 3) := by decide +kernel
theorem dX9_setDue_6 : decode cX9_setDue 6 = .ok (.invokevirtual 145, 3) := by decide +kernel
theorem dX9_setDue_9 : decode cX9_setDue 9 = .ok (.ifCond .ne 5, 3) := by decide +kernel
theorem dX9_setDue_12 : decode cX9_setDue 12 = .ok (.iconst 0, 1) := by decide +kernel
theorem dX9_setDue_13 : decode cX9_setDue 13 = .ok (.ireturn, 1) := by decide +kernel
theorem dX9_setDue_14 : decode cX9_setDue 14 = .ok (.aload_n 0, 1) := by decide +kernel
theorem dX9_setDue_15 : decode cX9_setDue 15 = .ok (.getfield 48, 3) := by decide +kernel
theorem dX9_setDue_18 : decode cX9_setDue 18 = .ok (.iload_n 1, 1) := by decide +kernel
theorem dX9_setDue_19 : decode cX9_setDue 19 = .ok (.baload, 1) := by decide +kernel
theorem dX9_setDue_20 : decode cX9_setDue 20 = .ok (.istore_n 3, 1) := by decide +kernel
theorem dX9_setDue_21 : decode cX9_setDue 21 = .ok (.aload_n 0, 1) := by decide +kernel
theorem dX9_setDue_22 : decode cX9_setDue 22 = .ok (.getfield 48, 3) := by decide +kernel
theorem dX9_setDue_25 : decode cX9_setDue 25 = .ok (.iload_n 1, 1) := by decide +kernel
theorem dX9_setDue_26 : decode cX9_setDue 26 = .ok (.iload_n 2, 1) := by decide +kernel
theorem dX9_setDue_27 : decode cX9_setDue 27 = .ok (.bastore, 1) := by decide +kernel
theorem dX9_setDue_28 : decode cX9_setDue 28 = .ok (.iload_n 3, 1) := by decide +kernel
theorem dX9_setDue_29 : decode cX9_setDue 29 = .ok (.ireturn, 1) := by decide +kernel
theorem dX9_isDue_0 : decode cX9_isDue 0 = .ok (.aload_n 0, 1) := by decide +kernel
theorem dX9_isDue_1 : decode cX9_isDue 1 = .ok (.aload_n 0, 1) := by decide +kernel
theorem dX9_isDue_2 : decode cX9_isDue 2 = .ok (.iload_n 1, 1) := by decide +kernel
theorem dX9_isDue_3 : decode cX9_isDue 3 = .ok (.invokevirtual 125, 3) := by decide +kernel
theorem dX9_isDue_6 : decode cX9_isDue 6 = .ok (.invokevirtual 145, 3) := by decide +kernel
theorem dX9_isDue_9 : decode cX9_isDue 9 = .ok (.ifCond .eq 16, 3) := by decide +kernel
theorem dX9_isDue_12 : decode cX9_isDue 12 = .ok (.aload_n 0, 1) := by decide +kernel
theorem dX9_isDue_13 : decode cX9_isDue 13 = .ok (.getfield 48, 3) := by decide +kernel
theorem dX9_isDue_16 : decode cX9_isDue 16 = .ok (.iload_n 1, 1) := by decide +kernel
theorem dX9_isDue_17 : decode cX9_isDue 17 = .ok (.baload, 1) := by decide +kernel
theorem dX9_isDue_18 : decode cX9_isDue 18 = .ok (.ifCond .eq 7, 3) := by decide +kernel
theorem dX9_isDue_21 : decode cX9_isDue 21 = .ok (.iconst 1, 1) := by decide +kernel
theorem dX9_isDue_22 : decode cX9_isDue 22 = .ok (.goto 4, 3) := by decide +kernel
theorem dX9_isDue_25 : decode cX9_isDue 25 = .ok (.iconst 0, 1) := by decide +kernel
theorem dX9_isDue_26 : decode cX9_isDue 26 = .ok (.ireturn, 1) := by decide +kernel
theorem dX9_stepOf_0 : decode cX9_stepOf 0 = .ok (.iconst 0, 1) := by decide +kernel
theorem dX9_stepOf_1 : decode cX9_stepOf 1 = .ok (.istore_n 2, 1) := by decide +kernel
theorem dX9_stepOf_2 : decode cX9_stepOf 2 = .ok (.aload_n 0, 1) := by decide +kernel
theorem dX9_stepOf_3 : decode cX9_stepOf 3 = .ok (.getfield 93, 3) := by decide +kernel
theorem dX9_stepOf_6 : decode cX9_stepOf 6 = .ok (.iload_n 2, 1) := by decide +kernel
theorem dX9_stepOf_7 : decode cX9_stepOf 7 = .ok (.iaload, 1) := by decide +kernel
theorem dX9_stepOf_8 : decode cX9_stepOf 8 = .ok (.iload_n 1, 1) := by decide +kernel
theorem dX9_stepOf_9 : decode cX9_stepOf 9 = .ok (.if_icmp .eq 9, 3) := by decide +kernel
theorem dX9_stepOf_12 : decode cX9_stepOf 12 = .ok (.iinc 2 1, 3) := by decide +kernel
theorem dX9_stepOf_15 : decode cX9_stepOf 15 = .ok (.goto (-13), 3) := by decide +kernel
theorem dX9_stepOf_18 : decode cX9_stepOf 18 = .ok (.iload_n 2, 1) := by decide +kernel
theorem dX9_stepOf_19 : decode cX9_stepOf 19 = .ok (.ireturn, 1) := by decide +kernel
theorem dX9_stepOfCondition_0 : decode cX9_stepOfCondition 0 = .ok (.aload_n 0, 1) := by decide +kernel
theorem dX9_stepOfCondition_1 : decode cX9_stepOfCondition 1 = .ok (.aload_n 0, 1) := by decide +kernel
theorem dX9_stepOfCondition_2 : decode cX9_stepOfCondition 2 = .ok (.getfield 63, 3) := by decide +kernel
theorem dX9_stepOfCondition_5 : decode cX9_stepOfCondition 5 = .ok (.iload_n 1, 1) := by decide +kernel
theorem dX9_stepOfCondition_6 : decode cX9_stepOfCondition 6 = .ok (.iaload, 1) := by decide +kernel
theorem dX9_stepOfCondition_7 : decode cX9_stepOfCondition 7 = .ok (.invokevirtual 174, 3) := by decide +kernel
theorem dX9_stepOfCondition_10 : decode cX9_stepOfCondition 10 = .ok (.istore_n 2, 1) := by decide +kernel
theorem dX9_stepOfCondition_11 : decode cX9_stepOfCondition 11 = .ok (.aload_n 0, 1) := by decide +kernel
theorem dX9_stepOfCondition_12 : decode cX9_stepOfCondition 12 = .ok (.getfield 60, 3) := by decide +kernel
theorem dX9_stepOfCondition_15 : decode cX9_stepOfCondition 15 = .ok (.iload_n 1, 1) := by decide +kernel
theorem dX9_stepOfCondition_16 : decode cX9_stepOfCondition 16 = .ok (.iaload, 1) := by decide +kernel
theorem dX9_stepOfCondition_17 : decode cX9_stepOfCondition 17 = .ok (.iconst 3, 1) := by decide +kernel
theorem dX9_stepOfCondition_18 : decode cX9_stepOfCondition 18 = .ok (.if_icmp .ne 16, 3) := by decide +kernel
theorem dX9_stepOfCondition_21 : decode cX9_stepOfCondition 21 = .ok (.aload_n 0, 1) := by decide +kernel
theorem dX9_stepOfCondition_22 : decode cX9_stepOfCondition 22 = .ok (.aload_n 0, 1) := by decide +kernel
theorem dX9_stepOfCondition_23 : decode cX9_stepOfCondition 23 = .ok (.getfield 72, 3) := by decide +kernel
theorem dX9_stepOfCondition_26 : decode cX9_stepOfCondition 26 = .ok (.iload_n 1, 1) := by decide +kernel
theorem dX9_stepOfCondition_27 : decode cX9_stepOfCondition 27 = .ok (.iaload, 1) := by decide +kernel
theorem dX9_stepOfCondition_28 : decode cX9_stepOfCondition 28 = .ok (.invokevirtual 174, 3) := by decide +kernel
theorem dX9_stepOfCondition_31 : decode cX9_stepOfCondition 31 = .ok (.goto 4, 3) := by decide +kernel
theorem dX9_stepOfCondition_34 : decode cX9_stepOfCondition 34 = .ok (.iload_n 2, 1) := by decide +kernel
theorem dX9_stepOfCondition_35 : decode cX9_stepOfCondition 35 = .ok (.istore_n 3, 1) := by decide +kernel
theorem dX9_stepOfCondition_36 : decode cX9_stepOfCondition 36 = .ok (.iload_n 3, 1) := by decide +kernel
theorem dX9_stepOfCondition_37 : decode cX9_stepOfCondition 37 = .ok (.iload_n 2, 1) := by decide +kernel
theorem dX9_stepOfCondition_38 : decode cX9_stepOfCondition 38 = .ok (.if_icmp .le 7, 3) := by decide +kernel
theorem dX9_stepOfCondition_41 : decode cX9_stepOfCondition 41 = .ok (.iload_n 3, 1) := by decide +kernel
theorem dX9_stepOfCondition_42 : decode cX9_stepOfCondition 42 = .ok (.goto 4, 3) := by decide +kernel
theorem dX9_stepOfCondition_45 : decode cX9_stepOfCondition 45 = .ok (.iload_n 2, 1) := by decide +kernel
theorem dX9_stepOfCondition_46 : decode cX9_stepOfCondition 46 = .ok (.ireturn, 1) := by decide +kernel
theorem dX9_columnAt_0 : decode cX9_columnAt 0 = .ok (.aload_n 0, 1) := by decide +kernel
theorem dX9_columnAt_1 : decode cX9_columnAt 1 = .ok (.getfield 63, 3) := by decide +kernel
theorem dX9_columnAt_4 : decode cX9_columnAt 4 = .ok (.iload_n 1, 1) := by decide +kernel
theorem dX9_columnAt_5 : decode cX9_columnAt 5 = .ok (.iaload, 1) := by decide +kernel
theorem dX9_columnAt_6 : decode cX9_columnAt 6 = .ok (.aload_n 0, 1) := by decide +kernel
theorem dX9_columnAt_7 : decode cX9_columnAt 7 = .ok (.getfield 93, 3) := by decide +kernel
theorem dX9_columnAt_10 : decode cX9_columnAt 10 = .ok (.iload_n 2, 1) := by decide +kernel
theorem dX9_columnAt_11 : decode cX9_columnAt 11 = .ok (.iaload, 1) := by decide +kernel
theorem dX9_columnAt_12 : decode cX9_columnAt 12 = .ok (.if_icmp .ne 12, 3) := by decide +kernel
theorem dX9_columnAt_15 : decode cX9_columnAt 15 = .ok (.aload_n 0, 1) := by decide +kernel
theorem dX9_columnAt_16 : decode cX9_columnAt 16 = .ok (.getfield 66, 3) := by decide +kernel
theorem dX9_columnAt_19 : decode cX9_columnAt 19 = .ok (.iload_n 1, 1) := by decide +kernel
theorem dX9_columnAt_20 : decode cX9_columnAt 20 = .ok (.iaload, 1) := by decide +kernel
theorem dX9_columnAt_21 : decode cX9_columnAt 21 = .ok (.goto 9, 3) := by decide +kernel
theorem dX9_columnAt_24 : decode cX9_columnAt 24 = .ok (.aload_n 0, 1) := by decide +kernel
theorem dX9_columnAt_25 : decode cX9_columnAt 25 = .ok (.getfield 75, 3) := by decide +kernel
theorem dX9_columnAt_28 : decode cX9_columnAt 28 = .ok (.iload_n 1, 1) := by decide +kernel
theorem dX9_columnAt_29 : decode cX9_columnAt 29 = .ok (.iaload, 1) := by decide +kernel
theorem dX9_columnAt_30 : decode cX9_columnAt 30 = .ok (.ireturn, 1) := by decide +kernel
theorem dX9_useOf_0 : decode cX9_useOf 0 = .ok (.bipush 6, 2) := by decide +kernel
theorem dX9_useOf_2 : decode cX9_useOf 2 = .ok (.iload_n 1, 1) := by decide +kernel
theorem dX9_useOf_3 : decode cX9_useOf 3 = .ok (.imul, 1) := by decide +kernel
theorem dX9_useOf_4 : decode cX9_useOf 4 = .ok (.istore 4, 2) := by decide +kernel
theorem dX9_useOf_6 : decode cX9_useOf 6 = .ok (.iload 4, 2) := by decide +kernel
theorem dX9_useOf_8 : decode cX9_useOf 8 = .ok (.bipush 6, 2) := by decide +kernel
theorem dX9_useOf_10 : decode cX9_useOf 10 = .ok (.iload_n 1, 1) := by decide +kernel
theorem dX9_useOf_11 : decode cX9_useOf 11 = .ok (.imul, 1) := by decide +kernel
theorem dX9_useOf_12 : decode cX9_useOf 12 = .ok (.aload_n 0, 1) := by decide +kernel
theorem dX9_useOf_13 : decode cX9_useOf 13 = .ok (.getfield 57, 3) := by decide +kernel
theorem dX9_useOf_16 : decode cX9_useOf 16 = .ok (.iload_n 1, 1) := by decide +kernel
theorem dX9_useOf_17 : decode cX9_useOf 17 = .ok (.iaload, 1) := by decide +kernel
theorem dX9_useOf_18 : decode cX9_useOf 18 = .ok (.iadd, 1) := by decide +kernel
theorem dX9_useOf_19 : decode cX9_useOf 19 = .ok (.if_icmp .ge 54, 3) := by decide +kernel
theorem dX9_useOf_22 : decode cX9_useOf 22 = .ok (.aload_n 0, 1) := by decide +kernel
theorem dX9_useOf_23 : decode cX9_useOf 23 = .ok (.getfield 60, 3) := by decide +kernel
theorem dX9_useOf_26 : decode cX9_useOf 26 = .ok (.iload 4, 2) := by decide +kernel
theorem dX9_useOf_28 : decode cX9_useOf 28 = .ok (.iaload, 1) := by decide +kernel
theorem dX9_useOf_29 : decode cX9_useOf 29 = .ok (.ifCond .eq 14, 3) := by decide +kernel
theorem dX9_useOf_32 : decode cX9_useOf 32 = .ok (.aload_n 0, 1) := by decide +kernel
theorem dX9_useOf_33 : decode cX9_useOf 33 = .ok (.getfield 60, 3) := by decide +kernel
theorem dX9_useOf_36 : decode cX9_useOf 36 = .ok (.iload 4, 2) := by decide +kernel
theorem dX9_useOf_38 : decode cX9_useOf 38 = .ok (.iaload, 1) := by decide +kernel
theorem dX9_useOf_39 : decode cX9_useOf 39 = .ok (.iconst 3, 1) := by decide +kernel
theorem dX9_useOf_40 : decode cX9_useOf 40 = .ok (.if_icmp .ne 27, 3) := by decide +kernel
theorem dX9_useOf_43 : decode cX9_useOf 43 = .ok (.aload_n 0, 1) := by decide +kernel
theorem dX9_useOf_44 : decode cX9_useOf 44 = .ok (.iload 4, 2) := by decide +kernel
theorem dX9_useOf_46 : decode cX9_useOf 46 = .ok (.invokevirtual 177, 3) := by decide +kernel
theorem dX9_useOf_49 : decode cX9_useOf 49 = .ok (.iload_n 2, 1) := by decide +kernel
theorem dX9_useOf_50 : decode cX9_useOf 50 = .ok (.if_icmp .ne 17, 3) := by decide +kernel
theorem dX9_useOf_53 : decode cX9_useOf 53 = .ok (.aload_n 0, 1) := by decide +kernel
theorem dX9_useOf_54 : decode cX9_useOf 54 = .ok (.iload 4, 2) := by decide +kernel
theorem dX9_useOf_56 : decode cX9_useOf 56 = .ok (.iload_n 2, 1) := by decide +kernel
theorem dX9_useOf_57 : decode cX9_useOf 57 = .ok (.invokevirtual 180, 3) := by decide +kernel
theorem dX9_useOf_60 : decode cX9_useOf 60 = .ok (.iload_n 3, 1) := by decide +kernel
theorem dX9_useOf_61 : decode cX9_useOf 61 = .ok (.if_icmp .ne 6, 3) := by decide +kernel
theorem dX9_useOf_64 : decode cX9_useOf 64 = .ok (.iload 4, 2) := by decide +kernel
theorem dX9_useOf_66 : decode cX9_useOf 66 = .ok (.ireturn, 1) := by decide +kernel
theorem dX9_useOf_67 : decode cX9_useOf 67 = .ok (.iinc 4 1, 3) := by decide +kernel
theorem dX9_useOf_70 : decode cX9_useOf 70 = .ok (.goto (-64), 3) := by decide +kernel
theorem dX9_useOf_73 : decode cX9_useOf 73 = .ok (.iconst (-1), 1) := by decide +kernel
theorem dX9_useOf_74 : decode cX9_useOf 74 = .ok (.ireturn, 1) := by decide +kernel
theorem dX9_cellAt_0 : decode cX9_cellAt 0 = .ok (.iconst 3, 1) := by decide +kernel
theorem dX9_cellAt_1 : decode cX9_cellAt 1 = .ok (.aload_n 0, 1) := by decide +kernel
theorem dX9_cellAt_2 : decode cX9_cellAt 2 = .ok (.getfield 54, 3) := by decide +kernel
theorem dX9_cellAt_5 : decode cX9_cellAt 5 = .ok (.iconst 3, 1) := by decide +kernel
theorem dX9_cellAt_6 : decode cX9_cellAt 6 = .ok (.iload_n 1, 1) := by decide +kernel
theorem dX9_cellAt_7 : decode cX9_cellAt 7 = .ok (.imul, 1) := by decide +kernel
theorem dX9_cellAt_8 : decode cX9_cellAt 8 = .ok (.iload_n 2, 1) := by decide +kernel
theorem dX9_cellAt_9 : decode cX9_cellAt 9 = .ok (.iadd, 1) := by decide +kernel
theorem dX9_cellAt_10 : decode cX9_cellAt 10 = .ok (.iaload, 1) := by decide +kernel
theorem dX9_cellAt_11 : decode cX9_cellAt 11 = .ok (.imul, 1) := by decide +kernel
theorem dX9_cellAt_12 : decode cX9_cellAt 12 = .ok (.iload_n 3, 1) := by decide +kernel
theorem dX9_cellAt_13 : decode cX9_cellAt 13 = .ok (.iadd, 1) := by decide +kernel
theorem dX9_cellAt_14 : decode cX9_cellAt 14 = .ok (.ireturn, 1) := by decide +kernel
theorem dX9_changed_0 : decode cX9_changed 0 = .ok (.aload_n 0, 1) := by decide +kernel
theorem dX9_changed_1 : decode cX9_changed 1 = .ok (.iload_n 1, 1) := by decide +kernel
theorem dX9_changed_2 : decode cX9_changed 2 = .ok (.aload_n 0, 1) := by decide +kernel
theorem dX9_changed_3 : decode cX9_changed 3 = .ok (.getfield 63, 3) := by decide +kernel
theorem dX9_changed_6 : decode cX9_changed 6 = .ok (.iload_n 2, 1) := by decide +kernel
theorem dX9_changed_7 : decode cX9_changed 7 = .ok (.iaload, 1) := by decide +kernel
theorem dX9_changed_8 : decode cX9_changed 8 = .ok (.aload_n 0, 1) := by decide +kernel
theorem dX9_changed_9 : decode cX9_changed 9 = .ok (.getfield 66, 3) := by decide +kernel
theorem dX9_changed_12 : decode cX9_changed 12 = .ok (.iload_n 2, 1) := by decide +kernel
theorem dX9_changed_13 : decode cX9_changed 13 = .ok (.iaload, 1) := by decide +kernel
theorem dX9_changed_14 : decode cX9_changed 14 = .ok (.invokevirtual 183, 3) := by decide +kernel
theorem dX9_changed_17 : decode cX9_changed 17 = .ok (.istore 5, 2) := by decide +kernel
theorem dX9_changed_19 : decode cX9_changed 19 = .ok (.aload_n 0, 1) := by decide +kernel
theorem dX9_changed_20 : decode cX9_changed 20 = .ok (.getfield 60, 3) := by decide +kernel
theorem dX9_changed_23 : decode cX9_changed 23 = .ok (.iload_n 2, 1) := by decide +kernel
theorem dX9_changed_24 : decode cX9_changed 24 = .ok (.iaload, 1) := by decide +kernel
theorem dX9_changed_25 : decode cX9_changed 25 = .ok (.ifCond .eq 13, 3) := by decide +kernel
theorem dX9_changed_28 : decode cX9_changed 28 = .ok (.aload_n 0, 1) := by decide +kernel
theorem dX9_changed_29 : decode cX9_changed 29 = .ok (.getfield 60, 3) := by decide +kernel
theorem dX9_changed_32 : decode cX9_changed 32 = .ok (.iload_n 2, 1) := by decide +kernel
theorem dX9_changed_33 : decode cX9_changed 33 = .ok (.iaload, 1) := by decide +kernel
theorem dX9_changed_34 : decode cX9_changed 34 = .ok (.iconst 3, 1) := by decide +kernel
theorem dX9_changed_35 : decode cX9_changed 35 = .ok (.if_icmp .ne 94, 3) := by decide +kernel
theorem dX9_changed_38 : decode cX9_changed 38 = .ok (.aload_n 0, 1) := by decide +kernel
theorem dX9_changed_39 : decode cX9_changed 39 = .ok (.getfield 29, 3) := by decide +kernel
theorem dX9_changed_42 : decode cX9_changed 42 = .ok (.iload 5, 2) := by decide +kernel
theorem dX9_changed_44 : decode cX9_changed 44 = .ok (.iaload, 1) := by decide +kernel
theorem dX9_changed_45 : decode cX9_changed 45 = .ok (.iconst 1, 1) := by decide +kernel
theorem dX9_changed_46 : decode cX9_changed 46 = .ok (.if_icmp .ge 7, 3) := by decide +kernel
theorem dX9_changed_49 : decode cX9_changed 49 = .ok (.iconst 1, 1) := by decide +kernel
theorem dX9_changed_50 : decode cX9_changed 50 = .ok (.goto 10, 3) := by decide +kernel
theorem dX9_changed_53 : decode cX9_changed 53 = .ok (.aload_n 0, 1) := by decide +kernel
theorem dX9_changed_54 : decode cX9_changed 54 = .ok (.getfield 29, 3) := by decide +kernel
theorem dX9_changed_57 : decode cX9_changed 57 = .ok (.iload 5, 2) := by decide +kernel
theorem dX9_changed_59 : decode cX9_changed 59 = .ok (.iaload, 1) := by decide +kernel
theorem dX9_changed_60 : decode cX9_changed 60 = .ok (.istore 6, 2) := by decide +kernel
theorem dX9_changed_62 : decode cX9_changed 62 = .ok (.aload_n 0, 1) := by decide +kernel
theorem dX9_changed_63 : decode cX9_changed 63 = .ok (.getfield 60, 3) := by decide +kernel
theorem dX9_changed_66 : decode cX9_changed 66 = .ok (.iload_n 2, 1) := by decide +kernel
theorem dX9_changed_67 : decode cX9_changed 67 = .ok (.iaload, 1) := by decide +kernel
theorem dX9_changed_68 : decode cX9_changed 68 = .ok (.iconst 3, 1) := by decide +kernel
theorem dX9_changed_69 : decode cX9_changed 69 = .ok (.if_icmp .ne 54, 3) := by decide +kernel
theorem dX9_changed_72 : decode cX9_changed 72 = .ok (.aload_n 0, 1) := by decide +kernel
theorem dX9_changed_73 : decode cX9_changed 73 = .ok (.getfield 29, 3) := by decide +kernel
theorem dX9_changed_76 : decode cX9_changed 76 = .ok (.aload_n 0, 1) := by decide +kernel
theorem dX9_changed_77 : decode cX9_changed 77 = .ok (.iload_n 1, 1) := by decide +kernel
theorem dX9_changed_78 : decode cX9_changed 78 = .ok (.aload_n 0, 1) := by decide +kernel
theorem dX9_changed_79 : decode cX9_changed 79 = .ok (.getfield 72, 3) := by decide +kernel
theorem dX9_changed_82 : decode cX9_changed 82 = .ok (.iload_n 2, 1) := by decide +kernel
theorem dX9_changed_83 : decode cX9_changed 83 = .ok (.iaload, 1) := by decide +kernel
theorem dX9_changed_84 : decode cX9_changed 84 = .ok (.aload_n 0, 1) := by decide +kernel
theorem dX9_changed_85 : decode cX9_changed 85 = .ok (.getfield 75, 3) := by decide +kernel
theorem dX9_changed_88 : decode cX9_changed 88 = .ok (.iload_n 2, 1) := by decide +kernel
theorem dX9_changed_89 : decode cX9_changed 89 = .ok (.iaload, 1) := by decide +kernel
theorem dX9_changed_90 : decode cX9_changed 90 = .ok (.invokevirtual 183, 3) := by decide +kernel
theorem dX9_changed_93 : decode cX9_changed 93 = .ok (.iaload, 1) := by decide +kernel
theorem dX9_changed_94 : decode cX9_changed 94 = .ok (.iload 6, 2) := by decide +kernel
theorem dX9_changed_96 : decode cX9_changed 96 = .ok (.if_icmp .le 27, 3) := by decide +kernel
theorem dX9_changed_99 : decode cX9_changed 99 = .ok (.aload_n 0, 1) := by decide +kernel
theorem dX9_changed_100 : decode cX9_changed 100 = .ok (.getfield 29, 3) := by decide +kernel
theorem dX9_changed_103 : decode cX9_changed 103 = .ok (.aload_n 0, 1) := by decide +kernel
theorem dX9_changed_104 : decode cX9_changed 104 = .ok (.iload_n 1, 1) := by decide +kernel
theorem dX9_changed_105 : decode cX9_changed 105 = .ok (.aload_n 0, 1) := by decide +kernel
theorem dX9_changed_106 : decode cX9_changed 106 = .ok (.getfield 72, 3) := by decide +kernel
theorem dX9_changed_109 : decode cX9_changed 109 = .ok (.iload_n 2, 1) := by decide +kernel
theorem dX9_changed_110 : decode cX9_changed 110 = .ok (.iaload, 1) := by decide +kernel
theorem dX9_changed_111 : decode cX9_changed 111 = .ok (.aload_n 0, 1) := by decide +kernel
theorem dX9_changed_112 : decode cX9_changed 112 = .ok (.getfield 75, 3) := by decide +kernel
theorem dX9_changed_115 : decode cX9_changed 115 = .ok (.iload_n 2, 1) := by decide +kernel
theorem dX9_changed_116 : decode cX9_changed 116 = .ok (.iaload, 1) := by decide +kernel
theorem dX9_changed_117 : decode cX9_changed 117 = .ok (.invokevirtual 183, 3) := by decide +kernel
theorem dX9_changed_120 : decode cX9_changed 120 = .ok (.iaload, 1) := by decide +kernel
theorem dX9_changed_121 : decode cX9_changed 121 = .ok (.istore 6, 2) := by decide +kernel
theorem dX9_changed_123 : decode cX9_changed 123 = .ok (.lload_n 3, 1) := by decide +kernel
theorem dX9_changed_124 : decode cX9_changed 124 = .ok (.iload 6, 2) := by decide +kernel
theorem dX9_changed_126 : decode cX9_changed 126 = .ok (.i2l, 1) := by decide +kernel
theorem dX9_changed_127 : decode cX9_changed 127 = .ok (.ldiv, 1) := by decide +kernel
theorem dX9_changed_128 : decode cX9_changed 128 = .ok (.lreturn, 1) := by decide +kernel
theorem dX9_changed_129 : decode cX9_changed 129 = .ok (.aload_n 0, 1) := by decide +kernel
theorem dX9_changed_130 : decode cX9_changed 130 = .ok (.getfield 35, 3) := by decide +kernel
theorem dX9_changed_133 : decode cX9_changed 133 = .ok (.iload 5, 2) := by decide +kernel
theorem dX9_changed_135 : decode cX9_changed 135 = .ok (.iaload, 1) := by decide +kernel
theorem dX9_changed_136 : decode cX9_changed 136 = .ok (.aload_n 0, 1) := by decide +kernel
theorem dX9_changed_137 : decode cX9_changed 137 = .ok (.getfield 32, 3) := by decide +kernel
theorem dX9_changed_140 : decode cX9_changed 140 = .ok (.iload 5, 2) := by decide +kernel
theorem dX9_changed_142 : decode cX9_changed 142 = .ok (.iaload, 1) := by decide +kernel
theorem dX9_changed_143 : decode cX9_changed 143 = .ok (.isub, 1) := by decide +kernel
theorem dX9_changed_144 : decode cX9_changed 144 = .ok (.iconst 1, 1) := by decide +kernel
theorem dX9_changed_145 : decode cX9_changed 145 = .ok (.iadd, 1) := by decide +kernel
theorem dX9_changed_146 : decode cX9_changed 146 = .ok (.istore 6, 2) := by decide +kernel
theorem dX9_changed_148 : decode cX9_changed 148 = .ok (.aload_n 0, 1) := by decide +kernel
theorem dX9_changed_149 : decode cX9_changed 149 = .ok (.getfield 60, 3) := by decide +kernel
theorem dX9_changed_152 : decode cX9_changed 152 = .ok (.iload_n 2, 1) := by decide +kernel
theorem dX9_changed_153 : decode cX9_changed 153 = .ok (.iaload, 1) := by decide +kernel
theorem dX9_changed_154 : decode cX9_changed 154 = .ok (.iconst 1, 1) := by decide +kernel
theorem dX9_changed_155 : decode cX9_changed 155 = .ok (.if_icmp .ne 20, 3) := by decide +kernel
theorem dX9_changed_158 : decode cX9_changed 158 = .ok (.aload_n 0, 1) := by decide +kernel
theorem dX9_changed_159 : decode cX9_changed 159 = .ok (.getfield 69, 3) := by decide +kernel
theorem dX9_changed_162 : decode cX9_changed 162 = .ok (.iload_n 2, 1) := by decide +kernel
theorem dX9_changed_163 : decode cX9_changed 163 = .ok (.iaload, 1) := by decide +kernel
theorem dX9_changed_164 : decode cX9_changed 164 = .ok (.aload_n 0, 1) := by decide +kernel
theorem dX9_changed_165 : decode cX9_changed 165 = .ok (.getfield 32, 3) := by decide +kernel
theorem dX9_changed_168 : decode cX9_changed 168 = .ok (.iload 5, 2) := by decide +kernel
theorem dX9_changed_170 : decode cX9_changed 170 = .ok (.iaload, 1) := by decide +kernel
theorem dX9_changed_171 : decode cX9_changed 171 = .ok (.isub, 1) := by decide +kernel
theorem dX9_changed_172 : decode cX9_changed 172 = .ok (.goto 17, 3) := by decide +kernel
theorem dX9_changed_175 : decode cX9_changed 175 = .ok (.aload_n 0, 1) := by decide +kernel
theorem dX9_changed_176 : decode cX9_changed 176 = .ok (.getfield 35, 3) := by decide +kernel
theorem dX9_changed_179 : decode cX9_changed 179 = .ok (.iload 5, 2) := by decide +kernel
theorem dX9_changed_181 : decode cX9_changed 181 = .ok (.iaload, 1) := by decide +kernel
theorem dX9_changed_182 : decode cX9_changed 182 = .ok (.aload_n 0, 1) := by decide +kernel
theorem dX9_changed_183 : decode cX9_changed 183 = .ok (.getfield 69, 3) := by decide +kernel
theorem dX9_changed_186 : decode cX9_changed 186 = .ok (.iload_n 2, 1) := by decide +kernel
theorem dX9_changed_187 : decode cX9_changed 187 = .ok (.iaload, 1) := by decide +kernel
theorem dX9_changed_188 : decode cX9_changed 188 = .ok (.isub, 1) := by decide +kernel
theorem dX9_changed_189 : decode cX9_changed 189 = .ok (.istore 7, 2) := by decide +kernel
theorem dX9_changed_191 : decode cX9_changed 191 = .ok (.iload 7, 2) := by decide +kernel
theorem dX9_changed_193 : decode cX9_changed 193 = .ok (.ifCond .ge 7, 3) := by decide +kernel
theorem dX9_changed_196 : decode cX9_changed 196 = .ok (.iconst 0, 1) := by decide +kernel
theorem dX9_changed_197 : decode cX9_changed 197 = .ok (.goto 17, 3) := by decide +kernel
theorem dX9_changed_200 : decode cX9_changed 200 = .ok (.iload 7, 2) := by decide +kernel
theorem dX9_changed_202 : decode cX9_changed 202 = .ok (.iload 6, 2) := by decide +kernel
theorem dX9_changed_204 : decode cX9_changed 204 = .ok (.if_icmp .le 8, 3) := by decide +kernel
theorem dX9_changed_207 : decode cX9_changed 207 = .ok (.iload 6, 2) := by decide +kernel
theorem dX9_changed_209 : decode cX9_changed 209 = .ok (.goto 5, 3) := by decide +kernel
theorem dX9_changed_212 : decode cX9_changed 212 = .ok (.iload 7, 2) := by decide +kernel
theorem dX9_changed_214 : decode cX9_changed 214 = .ok (.istore 7, 2) := by decide +kernel
theorem dX9_changed_216 : decode cX9_changed 216 = .ok (.lload_n 3, 1) := by decide +kernel
theorem dX9_changed_217 : decode cX9_changed 217 = .ok (.iload 7, 2) := by decide +kernel
theorem dX9_changed_219 : decode cX9_changed 219 = .ok (.i2l, 1) := by decide +kernel
theorem dX9_changed_220 : decode cX9_changed 220 = .ok (.lmul, 1) := by decide +kernel
theorem dX9_changed_221 : decode cX9_changed 221 = .ok (.iload 6, 2) := by decide +kernel
theorem dX9_changed_223 : decode cX9_changed 223 = .ok (.i2l, 1) := by decide +kernel
theorem dX9_changed_224 : decode cX9_changed 224 = .ok (.ldiv, 1) := by decide +kernel
theorem dX9_changed_225 : decode cX9_changed 225 = .ok (.lreturn, 1) := by decide +kernel
theorem dX9_cost_0 : decode cX9_cost 0 = .ok (.ldc2_w 186, 3) := by decide +kernel
theorem dX9_cost_3 : decode cX9_cost 3 = .ok (.lstore_n 2, 1) := by decide +kernel
theorem dX9_cost_4 : decode cX9_cost 4 = .ok (.lconst 0, 1) := by decide +kernel
theorem dX9_cost_5 : decode cX9_cost 5 = .ok (.lstore 4, 2) := by decide +kernel
theorem dX9_cost_7 : decode cX9_cost 7 = .ok (.iconst 0, 1) := by decide +kernel
theorem dX9_cost_8 : decode cX9_cost 8 = .ok (.istore 6, 2) := by decide +kernel
theorem dX9_cost_10 : decode cX9_cost 10 = .ok (.iload 6, 2) := by decide +kernel
theorem dX9_cost_12 : decode cX9_cost 12 = .ok (.aload_n 0, 1) := by decide +kernel
theorem dX9_cost_13 : decode cX9_cost 13 = .ok (.getfield 51, 3) := by decide +kernel
theorem dX9_cost_16 : decode cX9_cost 16 = .ok (.iload_n 1, 1) := by decide +kernel
theorem dX9_cost_17 : decode cX9_cost 17 = .ok (.iaload, 1) := by decide +kernel
theorem dX9_cost_18 : decode cX9_cost 18 = .ok (.if_icmp .ge 231, 3) := by decide +kernel
theorem dX9_cost_21 : decode cX9_cost 21 = .ok (.aload_n 0, 1) := by decide +kernel
theorem dX9_cost_22 : decode cX9_cost 22 = .ok (.getfield 54, 3) := by decide +kernel
theorem dX9_cost_25 : decode cX9_cost 25 = .ok (.iconst 3, 1) := by decide +kernel
theorem dX9_cost_26 : decode cX9_cost 26 = .ok (.iload_n 1, 1) := by decide +kernel
theorem dX9_cost_27 : decode cX9_cost 27 = .ok (.imul, 1) := by decide +kernel
theorem dX9_cost_28 : decode cX9_cost 28 = .ok (.aload_n 0, 1) := by decide +kernel
theorem dX9_cost_29 : decode cX9_cost 29 = .ok (.getfield 93, 3) := by decide +kernel
theorem dX9_cost_32 : decode cX9_cost 32 = .ok (.iload 6, 2) := by decide +kernel
theorem dX9_cost_34 : decode cX9_cost 34 = .ok (.iaload, 1) := by decide +kernel
theorem dX9_cost_35 : decode cX9_cost 35 = .ok (.iadd, 1) := by decide +kernel
theorem dX9_cost_36 : decode cX9_cost 36 = .ok (.iaload, 1) := by decide +kernel
theorem dX9_cost_37 : decode cX9_cost 37 = .ok (.istore 7, 2) := by decide +kernel
theorem dX9_cost_39 : decode cX9_cost 39 = .ok (.aload_n 0, 1) := by decide +kernel
theorem dX9_cost_40 : decode cX9_cost 40 = .ok (.getfield 96, 3) := by decide +kernel
theorem dX9_cost_43 : decode cX9_cost 43 = .ok (.iload 6, 2) := by decide +kernel
theorem dX9_cost_45 : decode cX9_cost 45 = .ok (.iaload, 1) := by decide +kernel
theorem dX9_cost_46 : decode cX9_cost 46 = .ok (.iconst (-1), 1) := by decide +kernel
theorem dX9_cost_47 : decode cX9_cost 47 = .ok (.if_icmp .ne 21, 3) := by decide +kernel
theorem dX9_cost_50 : decode cX9_cost 50 = .ok (.lload 4, 2) := by decide +kernel
theorem dX9_cost_52 : decode cX9_cost 52 = .ok (.lload_n 2, 1) := by decide +kernel
theorem dX9_cost_53 : decode cX9_cost 53 = .ok (.aload_n 0, 1) := by decide +kernel
theorem dX9_cost_54 : decode cX9_cost 54 = .ok (.getfield 26, 3) := by decide +kernel
theorem dX9_cost_57 : decode cX9_cost 57 = .ok (.iload 7, 2) := by decide +kernel
theorem dX9_cost_59 : decode cX9_cost 59 = .ok (.iaload, 1) := by decide +kernel
theorem dX9_cost_60 : decode cX9_cost 60 = .ok (.i2l, 1) := by decide +kernel
theorem dX9_cost_61 : decode cX9_cost 61 = .ok (.lmul, 1) := by decide +kernel
theorem dX9_cost_62 : decode cX9_cost 62 = .ok (.ladd, 1) := by decide +kernel
theorem dX9_cost_63 : decode cX9_cost 63 = .ok (.lstore 4, 2) := by decide +kernel
theorem dX9_cost_65 : decode cX9_cost 65 = .ok (.goto 115, 3) := by decide +kernel
theorem dX9_cost_68 : decode cX9_cost 68 = .ok (.aload_n 0, 1) := by decide +kernel
theorem dX9_cost_69 : decode cX9_cost 69 = .ok (.getfield 96, 3) := by decide +kernel
theorem dX9_cost_72 : decode cX9_cost 72 = .ok (.iload 6, 2) := by decide +kernel
theorem dX9_cost_74 : decode cX9_cost 74 = .ok (.iaload, 1) := by decide +kernel
theorem dX9_cost_75 : decode cX9_cost 75 = .ok (.aload_n 0, 1) := by decide +kernel
theorem dX9_cost_76 : decode cX9_cost 76 = .ok (.getfield 7, 3) := by decide +kernel
theorem dX9_cost_79 : decode cX9_cost 79 = .ok (.iload 7, 2) := by decide +kernel
theorem dX9_cost_81 : decode cX9_cost 81 = .ok (.iaload, 1) := by decide +kernel
theorem dX9_cost_82 : decode cX9_cost 82 = .ok (.if_icmp .ge 94, 3) := by decide +kernel
theorem dX9_cost_85 : decode cX9_cost 85 = .ok (.aload_n 0, 1) := by decide +kernel
theorem dX9_cost_86 : decode cX9_cost 86 = .ok (.getfield 23, 3) := by decide +kernel
theorem dX9_cost_89 : decode cX9_cost 89 = .ok (.iconst 3, 1) := by decide +kernel
theorem dX9_cost_90 : decode cX9_cost 90 = .ok (.iload 7, 2) := by decide +kernel
theorem dX9_cost_92 : decode cX9_cost 92 = .ok (.imul, 1) := by decide +kernel
theorem dX9_cost_93 : decode cX9_cost 93 = .ok (.aload_n 0, 1) := by decide +kernel
theorem dX9_cost_94 : decode cX9_cost 94 = .ok (.getfield 96, 3) := by decide +kernel
theorem dX9_cost_97 : decode cX9_cost 97 = .ok (.iload 6, 2) := by decide +kernel
theorem dX9_cost_99 : decode cX9_cost 99 = .ok (.iaload, 1) := by decide +kernel
theorem dX9_cost_100 : decode cX9_cost 100 = .ok (.iadd, 1) := by decide +kernel
theorem dX9_cost_101 : decode cX9_cost 101 = .ok (.baload, 1) := by decide +kernel
theorem dX9_cost_102 : decode cX9_cost 102 = .ok (.ifCond .eq 74, 3) := by decide +kernel
theorem dX9_cost_105 : decode cX9_cost 105 = .ok (.aload_n 0, 1) := by decide +kernel
theorem dX9_cost_106 : decode cX9_cost 106 = .ok (.iload_n 1, 1) := by decide +kernel
theorem dX9_cost_107 : decode cX9_cost 107 = .ok (.iload 6, 2) := by decide +kernel
theorem dX9_cost_109 : decode cX9_cost 109 = .ok (.aload_n 0, 1) := by decide +kernel
theorem dX9_cost_110 : decode cX9_cost 110 = .ok (.getfield 96, 3) := by decide +kernel
theorem dX9_cost_113 : decode cX9_cost 113 = .ok (.iload 6, 2) := by decide +kernel
theorem dX9_cost_115 : decode cX9_cost 115 = .ok (.iaload, 1) := by decide +kernel
theorem dX9_cost_116 : decode cX9_cost 116 = .ok (.invokevirtual 188, 3) := by decide +kernel
theorem dX9_cost_119 : decode cX9_cost 119 = .ok (.iconst (-1), 1) := by decide +kernel
theorem dX9_cost_120 : decode cX9_cost 120 = .ok (.if_icmp .eq 56, 3) := by decide +kernel
theorem dX9_cost_123 : decode cX9_cost 123 = .ok (.aload_n 0, 1) := by decide +kernel
theorem dX9_cost_124 : decode cX9_cost 124 = .ok (.getfield 29, 3) := by decide +kernel
theorem dX9_cost_127 : decode cX9_cost 127 = .ok (.iconst 3, 1) := by decide +kernel
theorem dX9_cost_128 : decode cX9_cost 128 = .ok (.iload 7, 2) := by decide +kernel
theorem dX9_cost_130 : decode cX9_cost 130 = .ok (.imul, 1) := by decide +kernel
theorem dX9_cost_131 : decode cX9_cost 131 = .ok (.aload_n 0, 1) := by decide +kernel
theorem dX9_cost_132 : decode cX9_cost 132 = .ok (.getfield 96, 3) := by decide +kernel
theorem dX9_cost_135 : decode cX9_cost 135 = .ok (.iload 6, 2) := by decide +kernel
theorem dX9_cost_137 : decode cX9_cost 137 = .ok (.iaload, 1) := by decide +kernel
theorem dX9_cost_138 : decode cX9_cost 138 = .ok (.iadd, 1) := by decide +kernel
theorem dX9_cost_139 : decode cX9_cost 139 = .ok (.iaload, 1) := by decide +kernel
theorem dX9_cost_140 : decode cX9_cost 140 = .ok (.istore 8, 2) := by decide +kernel
theorem dX9_cost_142 : decode cX9_cost 142 = .ok (.lload 4, 2) := by decide +kernel
theorem dX9_cost_144 : decode cX9_cost 144 = .ok (.lload_n 2, 1) := by decide +kernel
theorem dX9_cost_145 : decode cX9_cost 145 = .ok (.lload_n 2, 1) := by decide +kernel
theorem dX9_cost_146 : decode cX9_cost 146 = .ok (.aload_n 0, 1) := by decide +kernel
theorem dX9_cost_147 : decode cX9_cost 147 = .ok (.getfield 26, 3) := by decide +kernel
theorem dX9_cost_150 : decode cX9_cost 150 = .ok (.iload 7, 2) := by decide +kernel
theorem dX9_cost_152 : decode cX9_cost 152 = .ok (.iaload, 1) := by decide +kernel
theorem dX9_cost_153 : decode cX9_cost 153 = .ok (.i2l, 1) := by decide +kernel
theorem dX9_cost_154 : decode cX9_cost 154 = .ok (.lmul, 1) := by decide +kernel
theorem dX9_cost_155 : decode cX9_cost 155 = .ok (.iload 8, 2) := by decide +kernel
theorem dX9_cost_157 : decode cX9_cost 157 = .ok (.iconst 1, 1) := by decide +kernel
theorem dX9_cost_158 : decode cX9_cost 158 = .ok (.if_icmp .ge 7, 3) := by decide +kernel
theorem dX9_cost_161 : decode cX9_cost 161 = .ok (.iconst 1, 1) := by decide +kernel
theorem dX9_cost_162 : decode cX9_cost 162 = .ok (.goto 5, 3) := by decide +kernel
theorem dX9_cost_165 : decode cX9_cost 165 = .ok (.iload 8, 2) := by decide +kernel
theorem dX9_cost_167 : decode cX9_cost 167 = .ok (.i2l, 1) := by decide +kernel
theorem dX9_cost_168 : decode cX9_cost 168 = .ok (.ldiv, 1) := by decide +kernel
theorem dX9_cost_169 : decode cX9_cost 169 = .ok (.ladd, 1) := by decide +kernel
theorem dX9_cost_170 : decode cX9_cost 170 = .ok (.ladd, 1) := by decide +kernel
theorem dX9_cost_171 : decode cX9_cost 171 = .ok (.lstore 4, 2) := by decide +kernel
theorem dX9_cost_173 : decode cX9_cost 173 = .ok (.goto 7, 3) := by decide +kernel
theorem dX9_cost_176 : decode cX9_cost 176 = .ok (.ldc2_w 191, 3) := by decide +kernel
theorem dX9_cost_179 : decode cX9_cost 179 = .ok (.lreturn, 1) := by decide +kernel
theorem dX9_cost_180 : decode cX9_cost 180 = .ok (.lload_n 2, 1) := by decide +kernel
theorem dX9_cost_181 : decode cX9_cost 181 = .ok (.aload_n 0, 1) := by decide +kernel
theorem dX9_cost_182 : decode cX9_cost 182 = .ok (.getfield 26, 3) := by decide +kernel
theorem dX9_cost_185 : decode cX9_cost 185 = .ok (.iload 7, 2) := by decide +kernel
theorem dX9_cost_187 : decode cX9_cost 187 = .ok (.iaload, 1) := by decide +kernel
theorem dX9_cost_188 : decode cX9_cost 188 = .ok (.i2l, 1) := by decide +kernel
theorem dX9_cost_189 : decode cX9_cost 189 = .ok (.lmul, 1) := by decide +kernel
theorem dX9_cost_190 : decode cX9_cost 190 = .ok (.lstore_n 2, 1) := by decide +kernel
theorem dX9_cost_191 : decode cX9_cost 191 = .ok (.bipush 6, 2) := by decide +kernel
theorem dX9_cost_193 : decode cX9_cost 193 = .ok (.iload_n 1, 1) := by decide +kernel
theorem dX9_cost_194 : decode cX9_cost 194 = .ok (.imul, 1) := by decide +kernel
theorem dX9_cost_195 : decode cX9_cost 195 = .ok (.istore 8, 2) := by decide +kernel
theorem dX9_cost_197 : decode cX9_cost 197 = .ok (.iload 8, 2) := by decide +kernel
theorem dX9_cost_199 : decode cX9_cost 199 = .ok (.bipush 6, 2) := by decide +kernel
theorem dX9_cost_201 : decode cX9_cost 201 = .ok (.iload_n 1, 1) := by decide +kernel
theorem dX9_cost_202 : decode cX9_cost 202 = .ok (.imul, 1) := by decide +kernel
theorem dX9_cost_203 : decode cX9_cost 203 = .ok (.aload_n 0, 1) := by decide +kernel
theorem dX9_cost_204 : decode cX9_cost 204 = .ok (.getfield 57, 3) := by decide +kernel
theorem dX9_cost_207 : decode cX9_cost 207 = .ok (.iload_n 1, 1) := by decide +kernel
theorem dX9_cost_208 : decode cX9_cost 208 = .ok (.iaload, 1) := by decide +kernel
theorem dX9_cost_209 : decode cX9_cost 209 = .ok (.iadd, 1) := by decide +kernel
theorem dX9_cost_210 : decode cX9_cost 210 = .ok (.if_icmp .ge 33, 3) := by decide +kernel
theorem dX9_cost_213 : decode cX9_cost 213 = .ok (.aload_n 0, 1) := by decide +kernel
theorem dX9_cost_214 : decode cX9_cost 214 = .ok (.iload 8, 2) := by decide +kernel
theorem dX9_cost_216 : decode cX9_cost 216 = .ok (.invokevirtual 177, 3) := by decide +kernel
theorem dX9_cost_219 : decode cX9_cost 219 = .ok (.iload 6, 2) := by decide +kernel
theorem dX9_cost_221 : decode cX9_cost 221 = .ok (.if_icmp .ne 14, 3) := by decide +kernel
theorem dX9_cost_224 : decode cX9_cost 224 = .ok (.aload_n 0, 1) := by decide +kernel
theorem dX9_cost_225 : decode cX9_cost 225 = .ok (.iload_n 1, 1) := by decide +kernel
theorem dX9_cost_226 : decode cX9_cost 226 = .ok (.iload 8, 2) := by decide +kernel
theorem dX9_cost_228 : decode cX9_cost 228 = .ok (.lload_n 2, 1) := by decide +kernel
theorem dX9_cost_229 : decode cX9_cost 229 = .ok (.invokevirtual 193, 3) := by decide +kernel
theorem dX9_cost_232 : decode cX9_cost 232 = .ok (.goto 4, 3) := by decide +kernel
theorem dX9_cost_235 : decode cX9_cost 235 = .ok (.lload_n 2, 1) := by decide +kernel
theorem dX9_cost_236 : decode cX9_cost 236 = .ok (.lstore_n 2, 1) := by decide +kernel
theorem dX9_cost_237 : decode cX9_cost 237 = .ok (.iinc 8 1, 3) := by decide +kernel
theorem dX9_cost_240 : decode cX9_cost 240 = .ok (.goto (-43), 3) := by decide +kernel
theorem dX9_cost_243 : decode cX9_cost 243 = .ok (.iinc 6 1, 3) := by decide +kernel
theorem dX9_cost_246 : decode cX9_cost 246 = .ok (.goto (-236), 3) := by decide +kernel
theorem dX9_cost_249 : decode cX9_cost 249 = .ok (.lload 4, 2) := by decide +kernel
theorem dX9_cost_251 : decode cX9_cost 251 = .ok (.lreturn, 1) := by decide +kernel
theorem dX9_triesWays_0 : decode cX9_triesWays 0 = .ok (.aload_n 0, 1) := by decide +kernel
theorem dX9_triesWays_1 : decode cX9_triesWays 1 = .ok (.getfield 51, 3) := by decide +kernel
theorem dX9_triesWays_4 : decode cX9_triesWays 4 = .ok (.iload_n 1, 1) := by decide +kernel
theorem dX9_triesWays_5 : decode cX9_triesWays 5 = .ok (.iaload, 1) := by decide +kernel
theorem dX9_triesWays_6 : decode cX9_triesWays 6 = .ok (.istore_n 2, 1) := by decide +kernel
theorem dX9_triesWays_7 : decode cX9_triesWays 7 = .ok (.iconst (-1), 1) := by decide +kernel
theorem dX9_triesWays_8 : decode cX9_triesWays 8 = .ok (.istore_n 3, 1) := by decide +kernel
theorem dX9_triesWays_9 : decode cX9_triesWays 9 = .ok (.iload_n 3, 1) := by decide +kernel
theorem dX9_triesWays_10 : decode cX9_triesWays 10 = .ok (.iconst 3, 1) := by decide +kernel
theorem dX9_triesWays_11 : decode cX9_triesWays 11 = .ok (.if_icmp .ge 166, 3) := by decide +kernel
theorem dX9_triesWays_14 : decode cX9_triesWays 14 = .ok (.iconst (-1), 1) := by decide +kernel
theorem dX9_triesWays_15 : decode cX9_triesWays 15 = .ok (.istore 4, 2) := by decide +kernel
theorem dX9_triesWays_17 : decode cX9_triesWays 17 = .ok (.iload 4, 2) := by decide +kernel
theorem dX9_triesWays_19 : decode cX9_triesWays 19 = .ok (.iload_n 2, 1) := by decide +kernel
theorem dX9_triesWays_20 : decode cX9_triesWays 20 = .ok (.iconst 1, 1) := by decide +kernel
theorem dX9_triesWays_21 : decode cX9_triesWays 21 = .ok (.if_icmp .le 7, 3) := by decide +kernel
theorem dX9_triesWays_24 : decode cX9_triesWays 24 = .ok (.iconst 3, 1) := by decide +kernel
theorem dX9_triesWays_25 : decode cX9_triesWays 25 = .ok (.goto 4, 3) := by decide +kernel
theorem dX9_triesWays_28 : decode cX9_triesWays 28 = .ok (.iconst 0, 1) := by decide +kernel
theorem dX9_triesWays_29 : decode cX9_triesWays 29 = .ok (.if_icmp .ge 142, 3) := by decide +kernel
theorem dX9_triesWays_32 : decode cX9_triesWays 32 = .ok (.iconst (-1), 1) := by decide +kernel
theorem dX9_triesWays_33 : decode cX9_triesWays 33 = .ok (.istore 5, 2) := by decide +kernel
theorem dX9_triesWays_35 : decode cX9_triesWays 35 = .ok (.iload 5, 2) := by decide +kernel
theorem dX9_triesWays_37 : decode cX9_triesWays 37 = .ok (.iload_n 2, 1) := by decide +kernel
theorem dX9_triesWays_38 : decode cX9_triesWays 38 = .ok (.iconst 2, 1) := by decide +kernel
theorem dX9_triesWays_39 : decode cX9_triesWays 39 = .ok (.if_icmp .le 7, 3) := by decide +kernel
theorem dX9_triesWays_42 : decode cX9_triesWays 42 = .ok (.iconst 3, 1) := by decide +kernel
theorem dX9_triesWays_43 : decode cX9_triesWays 43 = .ok (.goto 4, 3) := by decide +kernel
theorem dX9_triesWays_46 : decode cX9_triesWays 46 = .ok (.iconst 0, 1) := by decide +kernel
theorem dX9_triesWays_47 : decode cX9_triesWays 47 = .ok (.if_icmp .ge 118, 3) := by decide +kernel
theorem dX9_triesWays_50 : decode cX9_triesWays 50 = .ok (.aload_n 0, 1) := by decide +kernel
theorem dX9_triesWays_51 : decode cX9_triesWays 51 = .ok (.getfield 96, 3) := by decide +kernel
theorem dX9_triesWays_54 : decode cX9_triesWays 54 = .ok (.iconst 0, 1) := by decide +kernel
theorem dX9_triesWays_55 : decode cX9_triesWays 55 = .ok (.iload_n 3, 1) := by decide +kernel
theorem dX9_triesWays_56 : decode cX9_triesWays 56 = .ok (.iastore, 1) := by decide +kernel
theorem dX9_triesWays_57 : decode cX9_triesWays 57 = .ok (.aload_n 0, 1) := by decide +kernel
theorem dX9_triesWays_58 : decode cX9_triesWays 58 = .ok (.getfield 96, 3) := by decide +kernel
theorem dX9_triesWays_61 : decode cX9_triesWays 61 = .ok (.iconst 1, 1) := by decide +kernel
theorem dX9_triesWays_62 : decode cX9_triesWays 62 = .ok (.iload 4, 2) := by decide +kernel
theorem dX9_triesWays_64 : decode cX9_triesWays 64 = .ok (.iastore, 1) := by decide +kernel
theorem dX9_triesWays_65 : decode cX9_triesWays 65 = .ok (.aload_n 0, 1) := by decide +kernel
theorem dX9_triesWays_66 : decode cX9_triesWays 66 = .ok (.getfield 96, 3) := by decide +kernel
theorem dX9_triesWays_69 : decode cX9_triesWays 69 = .ok (.iconst 2, 1) := by decide +kernel
theorem dX9_triesWays_70 : decode cX9_triesWays 70 = .ok (.iload 5, 2) := by decide +kernel
theorem dX9_triesWays_72 : decode cX9_triesWays 72 = .ok (.iastore, 1) := by decide +kernel
theorem dX9_triesWays_73 : decode cX9_triesWays 73 = .ok (.aload_n 0, 1) := by decide +kernel
theorem dX9_triesWays_74 : decode cX9_triesWays 74 = .ok (.iload_n 1, 1) := by decide +kernel
theorem dX9_triesWays_75 : decode cX9_triesWays 75 = .ok (.invokevirtual 197, 3) := by decide +kernel
theorem dX9_triesWays_78 : decode cX9_triesWays 78 = .ok (.lstore 6, 2) := by decide +kernel
theorem dX9_triesWays_80 : decode cX9_triesWays 80 = .ok (.lload 6, 2) := by decide +kernel
theorem dX9_triesWays_82 : decode cX9_triesWays 82 = .ok (.ldc2_w 191, 3) := by decide +kernel
theorem dX9_triesWays_85 : decode cX9_triesWays 85 = .ok (.lcmp, 1) := by decide +kernel
theorem dX9_triesWays_86 : decode cX9_triesWays 86 = .ok (.ifCond .eq 73, 3) := by decide +kernel
theorem dX9_triesWays_89 : decode cX9_triesWays 89 = .ok (.aload_n 0, 1) := by decide +kernel
theorem dX9_triesWays_90 : decode cX9_triesWays 90 = .ok (.getfield 201, 3) := by decide +kernel
theorem dX9_triesWays_93 : decode cX9_triesWays 93 = .ok (.ldc2_w 191, 3) := by decide +kernel
theorem dX9_triesWays_96 : decode cX9_triesWays 96 = .ok (.lcmp, 1) := by decide +kernel
theorem dX9_triesWays_97 : decode cX9_triesWays 97 = .ok (.ifCond .eq 13, 3) := by decide +kernel
theorem dX9_triesWays_100 : decode cX9_triesWays 100 = .ok (.lload 6, 2) := by decide +kernel
theorem dX9_triesWays_102 : decode cX9_triesWays 102 = .ok (.aload_n 0, 1) := by decide +kernel
theorem dX9_triesWays_103 : decode cX9_triesWays 103 = .ok (.getfield 201, 3) := by decide +kernel
theorem dX9_triesWays_106 : decode cX9_triesWays 106 = .ok (.lcmp, 1) := by decide +kernel
theorem dX9_triesWays_107 : decode cX9_triesWays 107 = .ok (.ifCond .ge 52, 3) := by decide +kernel
theorem dX9_triesWays_110 : decode cX9_triesWays 110 = .ok (.aload_n 0, 1) := by decide +kernel
theorem dX9_triesWays_111 : decode cX9_triesWays 111 = .ok (.lload 6, 2) := by decide +kernel
theorem dX9_triesWays_113 : decode cX9_triesWays 113 = .ok (.putfield 201, 3) := by decide +kernel
theorem dX9_triesWays_116 : decode cX9_triesWays 116 = .ok (.iconst 0, 1) := by decide +kernel
theorem dX9_triesWays_117 : decode cX9_triesWays 117 = .ok (.istore 8, 2) := by decide +kernel
theorem dX9_triesWays_119 : decode cX9_triesWays 119 = .ok (.iload 8, 2) := by decide +kernel
theorem dX9_triesWays_121 : decode cX9_triesWays 121 = .ok (.iconst 3, 1) := by decide +kernel
theorem dX9_triesWays_122 : decode cX9_triesWays 122 = .ok (.if_icmp .ge 37, 3) := by decide +kernel
theorem dX9_triesWays_125 : decode cX9_triesWays 125 = .ok (.aload_n 0, 1) := by decide +kernel
theorem dX9_triesWays_126 : decode cX9_triesWays 126 = .ok (.getfield 99, 3) := by decide +kernel
theorem dX9_triesWays_129 : decode cX9_triesWays 129 = .ok (.iload 8, 2) := by decide +kernel
theorem dX9_triesWays_131 : decode cX9_triesWays 131 = .ok (.aload_n 0, 1) := by decide +kernel
theorem dX9_triesWays_132 : decode cX9_triesWays 132 = .ok (.getfield 93, 3) := by decide +kernel
theorem dX9_triesWays_135 : decode cX9_triesWays 135 = .ok (.iload 8, 2) := by decide +kernel
theorem dX9_triesWays_137 : decode cX9_triesWays 137 = .ok (.iaload, 1) := by decide +kernel
theorem dX9_triesWays_138 : decode cX9_triesWays 138 = .ok (.iastore, 1) := by decide +kernel
theorem dX9_triesWays_139 : decode cX9_triesWays 139 = .ok (.aload_n 0, 1) := by decide +kernel
theorem dX9_triesWays_140 : decode cX9_triesWays 140 = .ok (.getfield 102, 3) := by decide +kernel
theorem dX9_triesWays_143 : decode cX9_triesWays 143 = .ok (.iload 8, 2) := by decide +kernel
theorem dX9_triesWays_145 : decode cX9_triesWays 145 = .ok (.aload_n 0, 1) := by decide +kernel
theorem dX9_triesWays_146 : decode cX9_triesWays 146 = .ok (.getfield 96, 3) := by decide +kernel
theorem dX9_triesWays_149 : decode cX9_triesWays 149 = .ok (.iload 8, 2) := by decide +kernel
theorem dX9_triesWays_151 : decode cX9_triesWays 151 = .ok (.iaload, 1) := by decide +kernel
theorem dX9_triesWays_152 : decode cX9_triesWays 152 = .ok (.iastore, 1) := by decide +kernel
theorem dX9_triesWays_153 : decode cX9_triesWays 153 = .ok (.iinc 8 1, 3) := by decide +kernel
theorem dX9_triesWays_156 : decode cX9_triesWays 156 = .ok (.goto (-37), 3) := by decide +kernel
theorem dX9_triesWays_159 : decode cX9_triesWays 159 = .ok (.iinc 5 1, 3) := by decide +kernel
theorem dX9_triesWays_162 : decode cX9_triesWays 162 = .ok (.goto (-127), 3) := by decide +kernel
theorem dX9_triesWays_165 : decode cX9_triesWays 165 = .ok (.iinc 4 1, 3) := by decide +kernel
theorem dX9_triesWays_168 : decode cX9_triesWays 168 = .ok (.goto (-151), 3) := by decide +kernel
theorem dX9_triesWays_171 : decode cX9_triesWays 171 = .ok (.iinc 3 1, 3) := by decide +kernel
theorem dX9_triesWays_174 : decode cX9_triesWays 174 = .ok (.goto (-165), 3) := by decide +kernel
theorem dX9_triesWays_177 : decode cX9_triesWays 177 = .ok (.return_, 1) := by decide +kernel
theorem dX9_plans_0 : decode cX9_plans 0 = .ok (.aload_n 0, 1) := by decide +kernel
theorem dX9_plans_1 : decode cX9_plans 1 = .ok (.getfield 51, 3) := by decide +kernel
theorem dX9_plans_4 : decode cX9_plans 4 = .ok (.iload_n 1, 1) := by decide +kernel
theorem dX9_plans_5 : decode cX9_plans 5 = .ok (.iaload, 1) := by decide +kernel
theorem dX9_plans_6 : decode cX9_plans 6 = .ok (.istore_n 2, 1) := by decide +kernel
theorem dX9_plans_7 : decode cX9_plans 7 = .ok (.aload_n 0, 1) := by decide +kernel
theorem dX9_plans_8 : decode cX9_plans 8 = .ok (.iload_n 2, 1) := by decide +kernel
theorem dX9_plans_9 : decode cX9_plans 9 = .ok (.ifCond .ne 7, 3) := by decide +kernel
theorem dX9_plans_12 : decode cX9_plans 12 = .ok (.lconst 0, 1) := by decide +kernel
theorem dX9_plans_13 : decode cX9_plans 13 = .ok (.goto 6, 3) := by decide +kernel
theorem dX9_plans_16 : decode cX9_plans 16 = .ok (.ldc2_w 191, 3) := by decide +kernel
theorem dX9_plans_19 : decode cX9_plans 19 = .ok (.putfield 201, 3) := by decide +kernel
theorem dX9_plans_22 : decode cX9_plans 22 = .ok (.iconst 0, 1) := by decide +kernel
theorem dX9_plans_23 : decode cX9_plans 23 = .ok (.istore_n 3, 1) := by decide +kernel
theorem dX9_plans_24 : decode cX9_plans 24 = .ok (.iload_n 3, 1) := by decide +kernel
theorem dX9_plans_25 : decode cX9_plans 25 = .ok (.bipush 27, 2) := by decide +kernel
theorem dX9_plans_27 : decode cX9_plans 27 = .ok (.if_icmp .ge 147, 3) := by decide +kernel
theorem dX9_plans_30 : decode cX9_plans 30 = .ok (.iload_n 2, 1) := by decide +kernel
theorem dX9_plans_31 : decode cX9_plans 31 = .ok (.ifCond .le 143, 3) := by decide +kernel
theorem dX9_plans_34 : decode cX9_plans 34 = .ok (.aload_n 0, 1) := by decide +kernel
theorem dX9_plans_35 : decode cX9_plans 35 = .ok (.getfield 93, 3) := by decide +kernel
theorem dX9_plans_38 : decode cX9_plans 38 = .ok (.iconst 0, 1) := by decide +kernel
theorem dX9_plans_39 : decode cX9_plans 39 = .ok (.iload_n 3, 1) := by decide +kernel
theorem dX9_plans_40 : decode cX9_plans 40 = .ok (.bipush 9, 2) := by decide +kernel
theorem dX9_plans_42 : decode cX9_plans 42 = .ok (.idiv, 1) := by decide +kernel
theorem dX9_plans_43 : decode cX9_plans 43 = .ok (.iastore, 1) := by decide +kernel
theorem dX9_plans_44 : decode cX9_plans 44 = .ok (.aload_n 0, 1) := by decide +kernel
theorem dX9_plans_45 : decode cX9_plans 45 = .ok (.getfield 93, 3) := by decide +kernel
theorem dX9_plans_48 : decode cX9_plans 48 = .ok (.iconst 1, 1) := by decide +kernel
theorem dX9_plans_49 : decode cX9_plans 49 = .ok (.iload_n 3, 1) := by decide +kernel
theorem dX9_plans_50 : decode cX9_plans 50 = .ok (.iconst 3, 1) := by decide +kernel
theorem dX9_plans_51 : decode cX9_plans 51 = .ok (.idiv, 1) := by decide +kernel
theorem dX9_plans_52 : decode cX9_plans 52 = .ok (.iconst 3, 1) := by decide +kernel
theorem dX9_plans_53 : decode cX9_plans 53 = .ok (.irem, 1) := by decide +kernel
theorem dX9_plans_54 : decode cX9_plans 54 = .ok (.iastore, 1) := by decide +kernel
theorem dX9_plans_55 : decode cX9_plans 55 = .ok (.aload_n 0, 1) := by decide +kernel
theorem dX9_plans_56 : decode cX9_plans 56 = .ok (.getfield 93, 3) := by decide +kernel
theorem dX9_plans_59 : decode cX9_plans 59 = .ok (.iconst 2, 1) := by decide +kernel
theorem dX9_plans_60 : decode cX9_plans 60 = .ok (.iload_n 3, 1) := by decide +kernel
theorem dX9_plans_61 : decode cX9_plans 61 = .ok (.iconst 3, 1) := by decide +kernel
theorem dX9_plans_62 : decode cX9_plans 62 = .ok (.irem, 1) := by decide +kernel
theorem dX9_plans_63 : decode cX9_plans 63 = .ok (.iastore, 1) := by decide +kernel
theorem dX9_plans_64 : decode cX9_plans 64 = .ok (.aload_n 0, 1) := by decide +kernel
theorem dX9_plans_65 : decode cX9_plans 65 = .ok (.getfield 93, 3) := by decide +kernel
theorem dX9_plans_68 : decode cX9_plans 68 = .ok (.iconst 0, 1) := by decide +kernel
theorem dX9_plans_69 : decode cX9_plans 69 = .ok (.iaload, 1) := by decide +kernel
theorem dX9_plans_70 : decode cX9_plans 70 = .ok (.aload_n 0, 1) := by decide +kernel
theorem dX9_plans_71 : decode cX9_plans 71 = .ok (.getfield 93, 3) := by decide +kernel
theorem dX9_plans_74 : decode cX9_plans 74 = .ok (.iconst 1, 1) := by decide +kernel
theorem dX9_plans_75 : decode cX9_plans 75 = .ok (.iaload, 1) := by decide +kernel
theorem dX9_plans_76 : decode cX9_plans 76 = .ok (.if_icmp .eq 37, 3) := by decide +kernel
theorem dX9_plans_79 : decode cX9_plans 79 = .ok (.aload_n 0, 1) := by decide +kernel
theorem dX9_plans_80 : decode cX9_plans 80 = .ok (.getfield 93, 3) := by decide +kernel
theorem dX9_plans_83 : decode cX9_plans 83 = .ok (.iconst 0, 1) := by decide +kernel
theorem dX9_plans_84 : decode cX9_plans 84 = .ok (.iaload, 1) := by decide +kernel
theorem dX9_plans_85 : decode cX9_plans 85 = .ok (.aload_n 0, 1) := by decide +kernel
theorem dX9_plans_86 : decode cX9_plans 86 = .ok (.getfield 93, 3) := by decide +kernel
theorem dX9_plans_89 : decode cX9_plans 89 = .ok (.iconst 2, 1) := by decide +kernel
theorem dX9_plans_90 : decode cX9_plans 90 = .ok (.iaload, 1) := by decide +kernel
theorem dX9_plans_91 : decode cX9_plans 91 = .ok (.if_icmp .eq 22, 3) := by decide +kernel
theorem dX9_plans_94 : decode cX9_plans 94 = .ok (.aload_n 0, 1) := by decide +kernel
theorem dX9_plans_95 : decode cX9_plans 95 = .ok (.getfield 93, 3) := by decide +kernel
theorem dX9_plans_98 : decode cX9_plans 98 = .ok (.iconst 1, 1) := by decide +kernel
theorem dX9_plans_99 : decode cX9_plans 99 = .ok (.iaload, 1) := by decide +kernel
theorem dX9_plans_100 : decode cX9_plans 100 = .ok (.aload_n 0, 1) := by decide +kernel
theorem dX9_plans_101 : decode cX9_plans 101 = .ok (.getfield 93, 3) := by decide +kernel
theorem dX9_plans_104 : decode cX9_plans 104 = .ok (.iconst 2, 1) := by decide +kernel
theorem dX9_plans_105 : decode cX9_plans 105 = .ok (.iaload, 1) := by decide +kernel
theorem dX9_plans_106 : decode cX9_plans 106 = .ok (.if_icmp .eq 7, 3) := by decide +kernel
theorem dX9_plans_109 : decode cX9_plans 109 = .ok (.iconst 1, 1) := by decide +kernel
theorem dX9_plans_110 : decode cX9_plans 110 = .ok (.goto 4, 3) := by decide +kernel
theorem dX9_plans_113 : decode cX9_plans 113 = .ok (.iconst 0, 1) := by decide +kernel
theorem dX9_plans_114 : decode cX9_plans 114 = .ok (.istore 4, 2) := by decide +kernel
theorem dX9_plans_116 : decode cX9_plans 116 = .ok (.iload_n 2, 1) := by decide +kernel
theorem dX9_plans_117 : decode cX9_plans 117 = .ok (.iconst 3, 1) := by decide +kernel
theorem dX9_plans_118 : decode cX9_plans 118 = .ok (.if_icmp .eq 28, 3) := by decide +kernel
theorem dX9_plans_121 : decode cX9_plans 121 = .ok (.aload_n 0, 1) := by decide +kernel
theorem dX9_plans_122 : decode cX9_plans 122 = .ok (.getfield 93, 3) := by decide +kernel
theorem dX9_plans_125 : decode cX9_plans 125 = .ok (.iconst 2, 1) := by decide +kernel
theorem dX9_plans_126 : decode cX9_plans 126 = .ok (.iaload, 1) := by decide +kernel
theorem dX9_plans_127 : decode cX9_plans 127 = .ok (.iconst 2, 1) := by decide +kernel
theorem dX9_plans_128 : decode cX9_plans 128 = .ok (.if_icmp .ne 22, 3) := by decide +kernel
theorem dX9_plans_131 : decode cX9_plans 131 = .ok (.iload_n 2, 1) := by decide +kernel
theorem dX9_plans_132 : decode cX9_plans 132 = .ok (.iconst 2, 1) := by decide +kernel
theorem dX9_plans_133 : decode cX9_plans 133 = .ok (.if_icmp .eq 13, 3) := by decide +kernel
theorem dX9_plans_136 : decode cX9_plans 136 = .ok (.aload_n 0, 1) := by decide +kernel
theorem dX9_plans_137 : decode cX9_plans 137 = .ok (.getfield 93, 3) := by decide +kernel
theorem dX9_plans_140 : decode cX9_plans 140 = .ok (.iconst 1, 1) := by decide +kernel
theorem dX9_plans_141 : decode cX9_plans 141 = .ok (.iaload, 1) := by decide +kernel
theorem dX9_plans_142 : decode cX9_plans 142 = .ok (.iconst 1, 1) := by decide +kernel
theorem dX9_plans_143 : decode cX9_plans 143 = .ok (.if_icmp .ne 7, 3) := by decide +kernel
theorem dX9_plans_146 : decode cX9_plans 146 = .ok (.iconst 1, 1) := by decide +kernel
theorem dX9_plans_147 : decode cX9_plans 147 = .ok (.goto 4, 3) := by decide +kernel
theorem dX9_plans_150 : decode cX9_plans 150 = .ok (.iconst 0, 1) := by decide +kernel
theorem dX9_plans_151 : decode cX9_plans 151 = .ok (.istore 5, 2) := by decide +kernel
theorem dX9_plans_153 : decode cX9_plans 153 = .ok (.iload 4, 2) := by decide +kernel
theorem dX9_plans_155 : decode cX9_plans 155 = .ok (.ifCond .eq 13, 3) := by decide +kernel
theorem dX9_plans_158 : decode cX9_plans 158 = .ok (.iload 5, 2) := by decide +kernel
theorem dX9_plans_160 : decode cX9_plans 160 = .ok (.ifCond .eq 8, 3) := by decide +kernel
theorem dX9_plans_163 : decode cX9_plans 163 = .ok (.aload_n 0, 1) := by decide +kernel
theorem dX9_plans_164 : decode cX9_plans 164 = .ok (.iload_n 1, 1) := by decide +kernel
theorem dX9_plans_165 : decode cX9_plans 165 = .ok (.invokevirtual 205, 3) := by decide +kernel
theorem dX9_plans_168 : decode cX9_plans 168 = .ok (.iinc 3 1, 3) := by decide +kernel
theorem dX9_plans_171 : decode cX9_plans 171 = .ok (.goto (-147), 3) := by decide +kernel
theorem dX9_plans_174 : decode cX9_plans 174 = .ok (.iconst 0, 1) := by decide +kernel
theorem dX9_plans_175 : decode cX9_plans 175 = .ok (.istore_n 3, 1) := by decide +kernel
theorem dX9_plans_176 : decode cX9_plans 176 = .ok (.iload_n 3, 1) := by decide +kernel
theorem dX9_plans_177 : decode cX9_plans 177 = .ok (.iconst 3, 1) := by decide +kernel
theorem dX9_plans_178 : decode cX9_plans 178 = .ok (.if_icmp .ge 33, 3) := by decide +kernel
theorem dX9_plans_181 : decode cX9_plans 181 = .ok (.aload_n 0, 1) := by decide +kernel
theorem dX9_plans_182 : decode cX9_plans 182 = .ok (.getfield 93, 3) := by decide +kernel
theorem dX9_plans_185 : decode cX9_plans 185 = .ok (.iload_n 3, 1) := by decide +kernel
theorem dX9_plans_186 : decode cX9_plans 186 = .ok (.aload_n 0, 1) := by decide +kernel
theorem dX9_plans_187 : decode cX9_plans 187 = .ok (.getfield 99, 3) := by decide +kernel
theorem dX9_plans_190 : decode cX9_plans 190 = .ok (.iload_n 3, 1) := by decide +kernel
theorem dX9_plans_191 : decode cX9_plans 191 = .ok (.iaload, 1) := by decide +kernel
theorem dX9_plans_192 : decode cX9_plans 192 = .ok (.iastore, 1) := by decide +kernel
theorem dX9_plans_193 : decode cX9_plans 193 = .ok (.aload_n 0, 1) := by decide +kernel
theorem dX9_plans_194 : decode cX9_plans 194 = .ok (.getfield 96, 3) := by decide +kernel
theorem dX9_plans_197 : decode cX9_plans 197 = .ok (.iload_n 3, 1) := by decide +kernel
theorem dX9_plans_198 : decode cX9_plans 198 = .ok (.aload_n 0, 1) := by decide +kernel
theorem dX9_plans_199 : decode cX9_plans 199 = .ok (.getfield 102, 3) := by decide +kernel
theorem dX9_plans_202 : decode cX9_plans 202 = .ok (.iload_n 3, 1) := by decide +kernel
theorem dX9_plans_203 : decode cX9_plans 203 = .ok (.iaload, 1) := by decide +kernel
theorem dX9_plans_204 : decode cX9_plans 204 = .ok (.iastore, 1) := by decide +kernel
theorem dX9_plans_205 : decode cX9_plans 205 = .ok (.iinc 3 1, 3) := by decide +kernel
theorem dX9_plans_208 : decode cX9_plans 208 = .ok (.goto (-32), 3) := by decide +kernel
theorem dX9_plans_211 : decode cX9_plans 211 = .ok (.return_, 1) := by decide +kernel
theorem dX9_foretells_0 : decode cX9_foretells 0 = .ok (.aload_n 0, 1) := by decide +kernel
theorem dX9_foretells_1 : decode cX9_foretells 1 = .ok (.iload_n 1, 1) := by decide +kernel
theorem dX9_foretells_2 : decode cX9_foretells 2 = .ok (.invokevirtual 209, 3) := by decide +kernel
theorem dX9_foretells_5 : decode cX9_foretells 5 = .ok (.aload_n 0, 1) := by decide +kernel
theorem dX9_foretells_6 : decode cX9_foretells 6 = .ok (.getfield 201, 3) := by decide +kernel
theorem dX9_foretells_9 : decode cX9_foretells 9 = .ok (.ldc2_w 212, 3) := by decide +kernel
theorem dX9_foretells_12 : decode cX9_foretells 12 = .ok (.ladd, 1) := by decide +kernel
theorem dX9_foretells_13 : decode cX9_foretells 13 = .ok (.ldc2_w 186, 3) := by decide +kernel
theorem dX9_foretells_16 : decode cX9_foretells 16 = .ok (.ldiv, 1) := by decide +kernel
theorem dX9_foretells_17 : decode cX9_foretells 17 = .ok (.l2i, 1) := by decide +kernel
theorem dX9_foretells_18 : decode cX9_foretells 18 = .ok (.ireturn, 1) := by decide +kernel
theorem dX9_pickedAt_0 : decode cX9_pickedAt 0 = .ok (.aload_n 0, 1) := by decide +kernel
theorem dX9_pickedAt_1 : decode cX9_pickedAt 1 = .ok (.aload_n 0, 1) := by decide +kernel
theorem dX9_pickedAt_2 : decode cX9_pickedAt 2 = .ok (.getfield 54, 3) := by decide +kernel
theorem dX9_pickedAt_5 : decode cX9_pickedAt 5 = .ok (.iconst 3, 1) := by decide +kernel
theorem dX9_pickedAt_6 : decode cX9_pickedAt 6 = .ok (.iload_n 1, 1) := by decide +kernel
theorem dX9_pickedAt_7 : decode cX9_pickedAt 7 = .ok (.imul, 1) := by decide +kernel
theorem dX9_pickedAt_8 : decode cX9_pickedAt 8 = .ok (.iload_n 2, 1) := by decide +kernel
theorem dX9_pickedAt_9 : decode cX9_pickedAt 9 = .ok (.iadd, 1) := by decide +kernel
theorem dX9_pickedAt_10 : decode cX9_pickedAt 10 = .ok (.iaload, 1) := by decide +kernel
theorem dX9_pickedAt_11 : decode cX9_pickedAt 11 = .ok (.aload_n 0, 1) := by decide +kernel
theorem dX9_pickedAt_12 : decode cX9_pickedAt 12 = .ok (.getfield 105, 3) := by decide +kernel
theorem dX9_pickedAt_15 : decode cX9_pickedAt 15 = .ok (.aload_n 0, 1) := by decide +kernel
theorem dX9_pickedAt_16 : decode cX9_pickedAt 16 = .ok (.iload_n 2, 1) := by decide +kernel
theorem dX9_pickedAt_17 : decode cX9_pickedAt 17 = .ok (.invokevirtual 174, 3) := by decide +kernel
theorem dX9_pickedAt_20 : decode cX9_pickedAt 20 = .ok (.iaload, 1) := by decide +kernel
theorem dX9_pickedAt_21 : decode cX9_pickedAt 21 = .ok (.iload_n 3, 1) := by decide +kernel
theorem dX9_pickedAt_22 : decode cX9_pickedAt 22 = .ok (.invokevirtual 152, 3) := by decide +kernel
theorem dX9_pickedAt_25 : decode cX9_pickedAt 25 = .ok (.ireturn, 1) := by decide +kernel
theorem dX9_holds_0 : decode cX9_holds 0 = .ok (.aload_n 0, 1) := by decide +kernel
theorem dX9_holds_1 : decode cX9_holds 1 = .ok (.iload_n 1, 1) := by decide +kernel
theorem dX9_holds_2 : decode cX9_holds 2 = .ok (.aload_n 0, 1) := by decide +kernel
theorem dX9_holds_3 : decode cX9_holds 3 = .ok (.getfield 63, 3) := by decide +kernel
theorem dX9_holds_6 : decode cX9_holds 6 = .ok (.iload_n 2, 1) := by decide +kernel
theorem dX9_holds_7 : decode cX9_holds 7 = .ok (.iaload, 1) := by decide +kernel
theorem dX9_holds_8 : decode cX9_holds 8 = .ok (.aload_n 0, 1) := by decide +kernel
theorem dX9_holds_9 : decode cX9_holds 9 = .ok (.getfield 66, 3) := by decide +kernel
theorem dX9_holds_12 : decode cX9_holds 12 = .ok (.iload_n 2, 1) := by decide +kernel
theorem dX9_holds_13 : decode cX9_holds 13 = .ok (.iaload, 1) := by decide +kernel
theorem dX9_holds_14 : decode cX9_holds 14 = .ok (.invokevirtual 214, 3) := by decide +kernel
theorem dX9_holds_17 : decode cX9_holds 17 = .ok (.istore_n 3, 1) := by decide +kernel
theorem dX9_holds_18 : decode cX9_holds 18 = .ok (.aload_n 0, 1) := by decide +kernel
theorem dX9_holds_19 : decode cX9_holds 19 = .ok (.getfield 60, 3) := by decide +kernel
theorem dX9_holds_22 : decode cX9_holds 22 = .ok (.iload_n 2, 1) := by decide +kernel
theorem dX9_holds_23 : decode cX9_holds 23 = .ok (.iaload, 1) := by decide +kernel
theorem dX9_holds_24 : decode cX9_holds 24 = .ok (.ifCond .ne 21, 3) := by decide +kernel
theorem dX9_holds_27 : decode cX9_holds 27 = .ok (.iload_n 3, 1) := by decide +kernel
theorem dX9_holds_28 : decode cX9_holds 28 = .ok (.aload_n 0, 1) := by decide +kernel
theorem dX9_holds_29 : decode cX9_holds 29 = .ok (.getfield 69, 3) := by decide +kernel
theorem dX9_holds_32 : decode cX9_holds 32 = .ok (.iload_n 2, 1) := by decide +kernel
theorem dX9_holds_33 : decode cX9_holds 33 = .ok (.iaload, 1) := by decide +kernel
theorem dX9_holds_34 : decode cX9_holds 34 = .ok (.if_icmp .ne 7, 3) := by decide +kernel
theorem dX9_holds_37 : decode cX9_holds 37 = .ok (.iconst 1, 1) := by decide +kernel
theorem dX9_holds_38 : decode cX9_holds 38 = .ok (.goto 89, 3) := by decide +kernel
theorem dX9_holds_41 : decode cX9_holds 41 = .ok (.iconst 0, 1) := by decide +kernel
theorem dX9_holds_42 : decode cX9_holds 42 = .ok (.goto 85, 3) := by decide +kernel
theorem dX9_holds_45 : decode cX9_holds 45 = .ok (.aload_n 0, 1) := by decide +kernel
theorem dX9_holds_46 : decode cX9_holds 46 = .ok (.getfield 60, 3) := by decide +kernel
theorem dX9_holds_49 : decode cX9_holds 49 = .ok (.iload_n 2, 1) := by decide +kernel
theorem dX9_holds_50 : decode cX9_holds 50 = .ok (.iaload, 1) := by decide +kernel
theorem dX9_holds_51 : decode cX9_holds 51 = .ok (.iconst 1, 1) := by decide +kernel
theorem dX9_holds_52 : decode cX9_holds 52 = .ok (.if_icmp .ne 21, 3) := by decide +kernel
theorem dX9_holds_55 : decode cX9_holds 55 = .ok (.iload_n 3, 1) := by decide +kernel
theorem dX9_holds_56 : decode cX9_holds 56 = .ok (.aload_n 0, 1) := by decide +kernel
theorem dX9_holds_57 : decode cX9_holds 57 = .ok (.getfield 69, 3) := by decide +kernel
theorem dX9_holds_60 : decode cX9_holds 60 = .ok (.iload_n 2, 1) := by decide +kernel
theorem dX9_holds_61 : decode cX9_holds 61 = .ok (.iaload, 1) := by decide +kernel
theorem dX9_holds_62 : decode cX9_holds 62 = .ok (.if_icmp .ge 7, 3) := by decide +kernel
theorem dX9_holds_65 : decode cX9_holds 65 = .ok (.iconst 1, 1) := by decide +kernel
theorem dX9_holds_66 : decode cX9_holds 66 = .ok (.goto 61, 3) := by decide +kernel
theorem dX9_holds_69 : decode cX9_holds 69 = .ok (.iconst 0, 1) := by decide +kernel
theorem dX9_holds_70 : decode cX9_holds 70 = .ok (.goto 57, 3) := by decide +kernel
theorem dX9_holds_73 : decode cX9_holds 73 = .ok (.aload_n 0, 1) := by decide +kernel
theorem dX9_holds_74 : decode cX9_holds 74 = .ok (.getfield 60, 3) := by decide +kernel
theorem dX9_holds_77 : decode cX9_holds 77 = .ok (.iload_n 2, 1) := by decide +kernel
theorem dX9_holds_78 : decode cX9_holds 78 = .ok (.iaload, 1) := by decide +kernel
theorem dX9_holds_79 : decode cX9_holds 79 = .ok (.iconst 2, 1) := by decide +kernel
theorem dX9_holds_80 : decode cX9_holds 80 = .ok (.if_icmp .ne 21, 3) := by decide +kernel
theorem dX9_holds_83 : decode cX9_holds 83 = .ok (.iload_n 3, 1) := by decide +kernel
theorem dX9_holds_84 : decode cX9_holds 84 = .ok (.aload_n 0, 1) := by decide +kernel
theorem dX9_holds_85 : decode cX9_holds 85 = .ok (.getfield 69, 3) := by decide +kernel
theorem dX9_holds_88 : decode cX9_holds 88 = .ok (.iload_n 2, 1) := by decide +kernel
theorem dX9_holds_89 : decode cX9_holds 89 = .ok (.iaload, 1) := by decide +kernel
theorem dX9_holds_90 : decode cX9_holds 90 = .ok (.if_icmp .le 7, 3) := by decide +kernel
theorem dX9_holds_93 : decode cX9_holds 93 = .ok (.iconst 1, 1) := by decide +kernel
theorem dX9_holds_94 : decode cX9_holds 94 = .ok (.goto 33, 3) := by decide +kernel
theorem dX9_holds_97 : decode cX9_holds 97 = .ok (.iconst 0, 1) := by decide +kernel
theorem dX9_holds_98 : decode cX9_holds 98 = .ok (.goto 29, 3) := by decide +kernel
theorem dX9_holds_101 : decode cX9_holds 101 = .ok (.iload_n 3, 1) := by decide +kernel
theorem dX9_holds_102 : decode cX9_holds 102 = .ok (.aload_n 0, 1) := by decide +kernel
theorem dX9_holds_103 : decode cX9_holds 103 = .ok (.iload_n 1, 1) := by decide +kernel
theorem dX9_holds_104 : decode cX9_holds 104 = .ok (.aload_n 0, 1) := by decide +kernel
theorem dX9_holds_105 : decode cX9_holds 105 = .ok (.getfield 72, 3) := by decide +kernel
theorem dX9_holds_108 : decode cX9_holds 108 = .ok (.iload_n 2, 1) := by decide +kernel
theorem dX9_holds_109 : decode cX9_holds 109 = .ok (.iaload, 1) := by decide +kernel
theorem dX9_holds_110 : decode cX9_holds 110 = .ok (.aload_n 0, 1) := by decide +kernel
theorem dX9_holds_111 : decode cX9_holds 111 = .ok (.getfield 75, 3) := by decide +kernel
theorem dX9_holds_114 : decode cX9_holds 114 = .ok (.iload_n 2, 1) := by decide +kernel
theorem dX9_holds_115 : decode cX9_holds 115 = .ok (.iaload, 1) := by decide +kernel
theorem dX9_holds_116 : decode cX9_holds 116 = .ok (.invokevirtual 214, 3) := by decide +kernel
theorem dX9_holds_119 : decode cX9_holds 119 = .ok (.if_icmp .ne 7, 3) := by decide +kernel
theorem dX9_holds_122 : decode cX9_holds 122 = .ok (.iconst 1, 1) := by decide +kernel
theorem dX9_holds_123 : decode cX9_holds 123 = .ok (.goto 4, 3) := by decide +kernel
theorem dX9_holds_126 : decode cX9_holds 126 = .ok (.iconst 0, 1) := by decide +kernel
theorem dX9_holds_127 : decode cX9_holds 127 = .ok (.ireturn, 1) := by decide +kernel
theorem dX9_holdsAt_0 : decode cX9_holdsAt 0 = .ok (.iconst 1, 1) := by decide +kernel
theorem dX9_holdsAt_1 : decode cX9_holdsAt 1 = .ok (.istore_n 3, 1) := by decide +kernel
theorem dX9_holdsAt_2 : decode cX9_holdsAt 2 = .ok (.bipush 6, 2) := by decide +kernel
theorem dX9_holdsAt_4 : decode cX9_holdsAt 4 = .ok (.iload_n 1, 1) := by decide +kernel
theorem dX9_holdsAt_5 : decode cX9_holdsAt 5 = .ok (.imul, 1) := by decide +kernel
theorem dX9_holdsAt_6 : decode cX9_holdsAt 6 = .ok (.istore 4, 2) := by decide +kernel
theorem dX9_holdsAt_8 : decode cX9_holdsAt 8 = .ok (.iload 4, 2) := by decide +kernel
theorem dX9_holdsAt_10 : decode cX9_holdsAt 10 = .ok (.bipush 6, 2) := by decide +kernel
theorem dX9_holdsAt_12 : decode cX9_holdsAt 12 = .ok (.iload_n 1, 1) := by decide +kernel
theorem dX9_holdsAt_13 : decode cX9_holdsAt 13 = .ok (.imul, 1) := by decide +kernel
theorem dX9_holdsAt_14 : decode cX9_holdsAt 14 = .ok (.aload_n 0, 1) := by decide +kernel
theorem dX9_holdsAt_15 : decode cX9_holdsAt 15 = .ok (.getfield 57, 3) := by decide +kernel
theorem dX9_holdsAt_18 : decode cX9_holdsAt 18 = .ok (.iload_n 1, 1) := by decide +kernel
theorem dX9_holdsAt_19 : decode cX9_holdsAt 19 = .ok (.iaload, 1) := by decide +kernel
theorem dX9_holdsAt_20 : decode cX9_holdsAt 20 = .ok (.iadd, 1) := by decide +kernel
theorem dX9_holdsAt_21 : decode cX9_holdsAt 21 = .ok (.if_icmp .ge 39, 3) := by decide +kernel
theorem dX9_holdsAt_24 : decode cX9_holdsAt 24 = .ok (.iload_n 3, 1) := by decide +kernel
theorem dX9_holdsAt_25 : decode cX9_holdsAt 25 = .ok (.ifCond .eq 27, 3) := by decide +kernel
theorem dX9_holdsAt_28 : decode cX9_holdsAt 28 = .ok (.aload_n 0, 1) := by decide +kernel
theorem dX9_holdsAt_29 : decode cX9_holdsAt 29 = .ok (.iload 4, 2) := by decide +kernel
theorem dX9_holdsAt_31 : decode cX9_holdsAt 31 = .ok (.invokevirtual 177, 3) := by decide +kernel
theorem dX9_holdsAt_34 : decode cX9_holdsAt 34 = .ok (.iload_n 2, 1) := by decide +kernel
theorem dX9_holdsAt_35 : decode cX9_holdsAt 35 = .ok (.if_icmp .ne 13, 3) := by decide +kernel
theorem dX9_holdsAt_38 : decode cX9_holdsAt 38 = .ok (.aload_n 0, 1) := by decide +kernel
theorem dX9_holdsAt_39 : decode cX9_holdsAt 39 = .ok (.iload_n 1, 1) := by decide +kernel
theorem dX9_holdsAt_40 : decode cX9_holdsAt 40 = .ok (.iload 4, 2) := by decide +kernel
theorem dX9_holdsAt_42 : decode cX9_holdsAt 42 = .ok (.invokevirtual 217, 3) := by decide +kernel
theorem dX9_holdsAt_45 : decode cX9_holdsAt 45 = .ok (.ifCond .eq 7, 3) := by decide +kernel
theorem dX9_holdsAt_48 : decode cX9_holdsAt 48 = .ok (.iconst 1, 1) := by decide +kernel
theorem dX9_holdsAt_49 : decode cX9_holdsAt 49 = .ok (.goto 4, 3) := by decide +kernel
theorem dX9_holdsAt_52 : decode cX9_holdsAt 52 = .ok (.iconst 0, 1) := by decide +kernel
theorem dX9_holdsAt_53 : decode cX9_holdsAt 53 = .ok (.istore_n 3, 1) := by decide +kernel
theorem dX9_holdsAt_54 : decode cX9_holdsAt 54 = .ok (.iinc 4 1, 3) := by decide +kernel
theorem dX9_holdsAt_57 : decode cX9_holdsAt 57 = .ok (.goto (-49), 3) := by decide +kernel
theorem dX9_holdsAt_60 : decode cX9_holdsAt 60 = .ok (.iload_n 3, 1) := by decide +kernel
theorem dX9_holdsAt_61 : decode cX9_holdsAt 61 = .ok (.ireturn, 1) := by decide +kernel
theorem dX9_minutesAt_0 : decode cX9_minutesAt 0 = .ok (.aload_n 0, 1) := by decide +kernel
theorem dX9_minutesAt_1 : decode cX9_minutesAt 1 = .ok (.getfield 54, 3) := by decide +kernel
theorem dX9_minutesAt_4 : decode cX9_minutesAt 4 = .ok (.iconst 3, 1) := by decide +kernel
theorem dX9_minutesAt_5 : decode cX9_minutesAt 5 = .ok (.iload_n 1, 1) := by decide +kernel
theorem dX9_minutesAt_6 : decode cX9_minutesAt 6 = .ok (.imul, 1) := by decide +kernel
theorem dX9_minutesAt_7 : decode cX9_minutesAt 7 = .ok (.aload_n 0, 1) := by decide +kernel
theorem dX9_minutesAt_8 : decode cX9_minutesAt 8 = .ok (.getfield 93, 3) := by decide +kernel
theorem dX9_minutesAt_11 : decode cX9_minutesAt 11 = .ok (.iload_n 2, 1) := by decide +kernel
theorem dX9_minutesAt_12 : decode cX9_minutesAt 12 = .ok (.iaload, 1) := by decide +kernel
theorem dX9_minutesAt_13 : decode cX9_minutesAt 13 = .ok (.iadd, 1) := by decide +kernel
theorem dX9_minutesAt_14 : decode cX9_minutesAt 14 = .ok (.iaload, 1) := by decide +kernel
theorem dX9_minutesAt_15 : decode cX9_minutesAt 15 = .ok (.istore_n 3, 1) := by decide +kernel
theorem dX9_minutesAt_16 : decode cX9_minutesAt 16 = .ok (.aload_n 0, 1) := by decide +kernel
theorem dX9_minutesAt_17 : decode cX9_minutesAt 17 = .ok (.getfield 96, 3) := by decide +kernel
theorem dX9_minutesAt_20 : decode cX9_minutesAt 20 = .ok (.iload_n 2, 1) := by decide +kernel
theorem dX9_minutesAt_21 : decode cX9_minutesAt 21 = .ok (.iaload, 1) := by decide +kernel
theorem dX9_minutesAt_22 : decode cX9_minutesAt 22 = .ok (.iconst (-1), 1) := by decide +kernel
theorem dX9_minutesAt_23 : decode cX9_minutesAt 23 = .ok (.if_icmp .ne 9, 3) := by decide +kernel
theorem dX9_minutesAt_26 : decode cX9_minutesAt 26 = .ok (.aload_n 0, 1) := by decide +kernel
theorem dX9_minutesAt_27 : decode cX9_minutesAt 27 = .ok (.iload_n 3, 1) := by decide +kernel
theorem dX9_minutesAt_28 : decode cX9_minutesAt 28 = .ok (.invokevirtual 148, 3) := by decide +kernel
theorem dX9_minutesAt_31 : decode cX9_minutesAt 31 = .ok (.ireturn, 1) := by decide +kernel
theorem dX9_minutesAt_32 : decode cX9_minutesAt 32 = .ok (.aload_n 0, 1) := by decide +kernel
theorem dX9_minutesAt_33 : decode cX9_minutesAt 33 = .ok (.iload_n 1, 1) := by decide +kernel
theorem dX9_minutesAt_34 : decode cX9_minutesAt 34 = .ok (.iload_n 2, 1) := by decide +kernel
theorem dX9_minutesAt_35 : decode cX9_minutesAt 35 = .ok (.aload_n 0, 1) := by decide +kernel
theorem dX9_minutesAt_36 : decode cX9_minutesAt 36 = .ok (.getfield 96, 3) := by decide +kernel
theorem dX9_minutesAt_39 : decode cX9_minutesAt 39 = .ok (.iload_n 2, 1) := by decide +kernel
theorem dX9_minutesAt_40 : decode cX9_minutesAt 40 = .ok (.iaload, 1) := by decide +kernel
theorem dX9_minutesAt_41 : decode cX9_minutesAt 41 = .ok (.invokevirtual 188, 3) := by decide +kernel
theorem dX9_minutesAt_44 : decode cX9_minutesAt 44 = .ok (.istore 4, 2) := by decide +kernel
theorem dX9_minutesAt_46 : decode cX9_minutesAt 46 = .ok (.aload_n 0, 1) := by decide +kernel
theorem dX9_minutesAt_47 : decode cX9_minutesAt 47 = .ok (.getfield 60, 3) := by decide +kernel
theorem dX9_minutesAt_50 : decode cX9_minutesAt 50 = .ok (.iload 4, 2) := by decide +kernel
theorem dX9_minutesAt_52 : decode cX9_minutesAt 52 = .ok (.iaload, 1) := by decide +kernel
theorem dX9_minutesAt_53 : decode cX9_minutesAt 53 = .ok (.ifCond .ne 13, 3) := by decide +kernel
theorem dX9_minutesAt_56 : decode cX9_minutesAt 56 = .ok (.aload_n 0, 1) := by decide +kernel
theorem dX9_minutesAt_57 : decode cX9_minutesAt 57 = .ok (.getfield 69, 3) := by decide +kernel
theorem dX9_minutesAt_60 : decode cX9_minutesAt 60 = .ok (.iload 4, 2) := by decide +kernel
theorem dX9_minutesAt_62 : decode cX9_minutesAt 62 = .ok (.iaload, 1) := by decide +kernel
theorem dX9_minutesAt_63 : decode cX9_minutesAt 63 = .ok (.goto 60, 3) := by decide +kernel
theorem dX9_minutesAt_66 : decode cX9_minutesAt 66 = .ok (.aload_n 0, 1) := by decide +kernel
theorem dX9_minutesAt_67 : decode cX9_minutesAt 67 = .ok (.getfield 63, 3) := by decide +kernel
theorem dX9_minutesAt_70 : decode cX9_minutesAt 70 = .ok (.iload 4, 2) := by decide +kernel
theorem dX9_minutesAt_72 : decode cX9_minutesAt 72 = .ok (.iaload, 1) := by decide +kernel
theorem dX9_minutesAt_73 : decode cX9_minutesAt 73 = .ok (.aload_n 0, 1) := by decide +kernel
theorem dX9_minutesAt_74 : decode cX9_minutesAt 74 = .ok (.getfield 93, 3) := by decide +kernel
theorem dX9_minutesAt_77 : decode cX9_minutesAt 77 = .ok (.iload_n 2, 1) := by decide +kernel
theorem dX9_minutesAt_78 : decode cX9_minutesAt 78 = .ok (.iaload, 1) := by decide +kernel
theorem dX9_minutesAt_79 : decode cX9_minutesAt 79 = .ok (.if_icmp .ne 25, 3) := by decide +kernel
theorem dX9_minutesAt_82 : decode cX9_minutesAt 82 = .ok (.aload_n 0, 1) := by decide +kernel
theorem dX9_minutesAt_83 : decode cX9_minutesAt 83 = .ok (.iload_n 1, 1) := by decide +kernel
theorem dX9_minutesAt_84 : decode cX9_minutesAt 84 = .ok (.aload_n 0, 1) := by decide +kernel
theorem dX9_minutesAt_85 : decode cX9_minutesAt 85 = .ok (.getfield 72, 3) := by decide +kernel
theorem dX9_minutesAt_88 : decode cX9_minutesAt 88 = .ok (.iload 4, 2) := by decide +kernel
theorem dX9_minutesAt_90 : decode cX9_minutesAt 90 = .ok (.iaload, 1) := by decide +kernel
theorem dX9_minutesAt_91 : decode cX9_minutesAt 91 = .ok (.aload_n 0, 1) := by decide +kernel
theorem dX9_minutesAt_92 : decode cX9_minutesAt 92 = .ok (.getfield 75, 3) := by decide +kernel
theorem dX9_minutesAt_95 : decode cX9_minutesAt 95 = .ok (.iload 4, 2) := by decide +kernel
theorem dX9_minutesAt_97 : decode cX9_minutesAt 97 = .ok (.iaload, 1) := by decide +kernel
theorem dX9_minutesAt_98 : decode cX9_minutesAt 98 = .ok (.invokevirtual 214, 3) := by decide +kernel
theorem dX9_minutesAt_101 : decode cX9_minutesAt 101 = .ok (.goto 22, 3) := by decide +kernel
theorem dX9_minutesAt_104 : decode cX9_minutesAt 104 = .ok (.aload_n 0, 1) := by decide +kernel
theorem dX9_minutesAt_105 : decode cX9_minutesAt 105 = .ok (.iload_n 1, 1) := by decide +kernel
theorem dX9_minutesAt_106 : decode cX9_minutesAt 106 = .ok (.aload_n 0, 1) := by decide +kernel
theorem dX9_minutesAt_107 : decode cX9_minutesAt 107 = .ok (.getfield 63, 3) := by decide +kernel
theorem dX9_minutesAt_110 : decode cX9_minutesAt 110 = .ok (.iload 4, 2) := by decide +kernel
theorem dX9_minutesAt_112 : decode cX9_minutesAt 112 = .ok (.iaload, 1) := by decide +kernel
theorem dX9_minutesAt_113 : decode cX9_minutesAt 113 = .ok (.aload_n 0, 1) := by decide +kernel
theorem dX9_minutesAt_114 : decode cX9_minutesAt 114 = .ok (.getfield 66, 3) := by decide +kernel
theorem dX9_minutesAt_117 : decode cX9_minutesAt 117 = .ok (.iload 4, 2) := by decide +kernel
theorem dX9_minutesAt_119 : decode cX9_minutesAt 119 = .ok (.iaload, 1) := by decide +kernel
theorem dX9_minutesAt_120 : decode cX9_minutesAt 120 = .ok (.invokevirtual 214, 3) := by decide +kernel
theorem dX9_minutesAt_123 : decode cX9_minutesAt 123 = .ok (.istore 5, 2) := by decide +kernel
theorem dX9_minutesAt_125 : decode cX9_minutesAt 125 = .ok (.iconst 1, 1) := by decide +kernel
theorem dX9_minutesAt_126 : decode cX9_minutesAt 126 = .ok (.istore 6, 2) := by decide +kernel
theorem dX9_minutesAt_128 : decode cX9_minutesAt 128 = .ok (.iconst 0, 1) := by decide +kernel
theorem dX9_minutesAt_129 : decode cX9_minutesAt 129 = .ok (.istore 7, 2) := by decide +kernel
theorem dX9_minutesAt_131 : decode cX9_minutesAt 131 = .ok (.iload 7, 2) := by decide +kernel
theorem dX9_minutesAt_133 : decode cX9_minutesAt 133 = .ok (.aload_n 0, 1) := by decide +kernel
theorem dX9_minutesAt_134 : decode cX9_minutesAt 134 = .ok (.getfield 13, 3) := by decide +kernel
theorem dX9_minutesAt_137 : decode cX9_minutesAt 137 = .ok (.iload_n 3, 1) := by decide +kernel
theorem dX9_minutesAt_138 : decode cX9_minutesAt 138 = .ok (.iaload, 1) := by decide +kernel
theorem dX9_minutesAt_139 : decode cX9_minutesAt 139 = .ok (.if_icmp .ge 52, 3) := by decide +kernel
theorem dX9_minutesAt_142 : decode cX9_minutesAt 142 = .ok (.iload 6, 2) := by decide +kernel
theorem dX9_minutesAt_144 : decode cX9_minutesAt 144 = .ok (.aload_n 0, 1) := by decide +kernel
theorem dX9_minutesAt_145 : decode cX9_minutesAt 145 = .ok (.getfield 16, 3) := by decide +kernel
theorem dX9_minutesAt_148 : decode cX9_minutesAt 148 = .ok (.bipush 40, 2) := by decide +kernel
theorem dX9_minutesAt_150 : decode cX9_minutesAt 150 = .ok (.iload_n 3, 1) := by decide +kernel
theorem dX9_minutesAt_151 : decode cX9_minutesAt 151 = .ok (.imul, 1) := by decide +kernel
theorem dX9_minutesAt_152 : decode cX9_minutesAt 152 = .ok (.iload 7, 2) := by decide +kernel
theorem dX9_minutesAt_154 : decode cX9_minutesAt 154 = .ok (.iadd, 1) := by decide +kernel
theorem dX9_minutesAt_155 : decode cX9_minutesAt 155 = .ok (.baload, 1) := by decide +kernel
theorem dX9_minutesAt_156 : decode cX9_minutesAt 156 = .ok (.ifCond .eq 25, 3) := by decide +kernel
theorem dX9_minutesAt_159 : decode cX9_minutesAt 159 = .ok (.aload_n 0, 1) := by decide +kernel
theorem dX9_minutesAt_160 : decode cX9_minutesAt 160 = .ok (.iload_n 3, 1) := by decide +kernel
theorem dX9_minutesAt_161 : decode cX9_minutesAt 161 = .ok (.iload 7, 2) := by decide +kernel
theorem dX9_minutesAt_163 : decode cX9_minutesAt 163 = .ok (.aload_n 0, 1) := by decide +kernel
theorem dX9_minutesAt_164 : decode cX9_minutesAt 164 = .ok (.getfield 96, 3) := by decide +kernel
theorem dX9_minutesAt_167 : decode cX9_minutesAt 167 = .ok (.iload_n 2, 1) := by decide +kernel
theorem dX9_minutesAt_168 : decode cX9_minutesAt 168 = .ok (.iaload, 1) := by decide +kernel
theorem dX9_minutesAt_169 : decode cX9_minutesAt 169 = .ok (.invokevirtual 152, 3) := by decide +kernel
theorem dX9_minutesAt_172 : decode cX9_minutesAt 172 = .ok (.iload 5, 2) := by decide +kernel
theorem dX9_minutesAt_174 : decode cX9_minutesAt 174 = .ok (.if_icmp .ne 7, 3) := by decide +kernel
theorem dX9_minutesAt_177 : decode cX9_minutesAt 177 = .ok (.iconst 1, 1) := by decide +kernel
theorem dX9_minutesAt_178 : decode cX9_minutesAt 178 = .ok (.goto 4, 3) := by decide +kernel
theorem dX9_minutesAt_181 : decode cX9_minutesAt 181 = .ok (.iconst 0, 1) := by decide +kernel
theorem dX9_minutesAt_182 : decode cX9_minutesAt 182 = .ok (.iadd, 1) := by decide +kernel
theorem dX9_minutesAt_183 : decode cX9_minutesAt 183 = .ok (.istore 6, 2) := by decide +kernel
theorem dX9_minutesAt_185 : decode cX9_minutesAt 185 = .ok (.iinc 7 1, 3) := by decide +kernel
theorem dX9_minutesAt_188 : decode cX9_minutesAt 188 = .ok (.goto (-57), 3) := by decide +kernel
theorem dX9_minutesAt_191 : decode cX9_minutesAt 191 = .ok (.iload 6, 2) := by decide +kernel
theorem dX9_minutesAt_193 : decode cX9_minutesAt 193 = .ok (.ireturn, 1) := by decide +kernel
theorem dX9_runs_0 : decode cX9_runs 0 = .ok (.aload_n 0, 1) := by decide +kernel
theorem dX9_runs_1 : decode cX9_runs 1 = .ok (.iconst 0, 1) := by decide +kernel
theorem dX9_runs_2 : decode cX9_runs 2 = .ok (.putfield 220, 3) := by decide +kernel
theorem dX9_runs_5 : decode cX9_runs 5 = .ok (.aload_n 0, 1) := by decide +kernel
theorem dX9_runs_6 : decode cX9_runs 6 = .ok (.iconst 0, 1) := by decide +kernel
theorem dX9_runs_7 : decode cX9_runs 7 = .ok (.putfield 223, 3) := by decide +kernel
theorem dX9_runs_10 : decode cX9_runs 10 = .ok (.aload_n 0, 1) := by decide +kernel
theorem dX9_runs_11 : decode cX9_runs 11 = .ok (.iconst 0, 1) := by decide +kernel
theorem dX9_runs_12 : decode cX9_runs 12 = .ok (.putfield 226, 3) := by decide +kernel
theorem dX9_runs_15 : decode cX9_runs 15 = .ok (.aload_n 0, 1) := by decide +kernel
theorem dX9_runs_16 : decode cX9_runs 16 = .ok (.getfield 51, 3) := by decide +kernel
theorem dX9_runs_19 : decode cX9_runs 19 = .ok (.iload_n 1, 1) := by decide +kernel
theorem dX9_runs_20 : decode cX9_runs 20 = .ok (.iaload, 1) := by decide +kernel
theorem dX9_runs_21 : decode cX9_runs 21 = .ok (.istore_n 2, 1) := by decide +kernel
theorem dX9_runs_22 : decode cX9_runs 22 = .ok (.iconst 0, 1) := by decide +kernel
theorem dX9_runs_23 : decode cX9_runs 23 = .ok (.istore_n 3, 1) := by decide +kernel
theorem dX9_runs_24 : decode cX9_runs 24 = .ok (.iload_n 2, 1) := by decide +kernel
theorem dX9_runs_25 : decode cX9_runs 25 = .ok (.ifCond .le 20, 3) := by decide +kernel
theorem dX9_runs_28 : decode cX9_runs 28 = .ok (.aload_n 0, 1) := by decide +kernel
theorem dX9_runs_29 : decode cX9_runs 29 = .ok (.aload_n 0, 1) := by decide +kernel
theorem dX9_runs_30 : decode cX9_runs 30 = .ok (.iload_n 1, 1) := by decide +kernel
theorem dX9_runs_31 : decode cX9_runs 31 = .ok (.iconst 0, 1) := by decide +kernel
theorem dX9_runs_32 : decode cX9_runs 32 = .ok (.invokevirtual 229, 3) := by decide +kernel
theorem dX9_runs_35 : decode cX9_runs 35 = .ok (.putfield 220, 3) := by decide +kernel
theorem dX9_runs_38 : decode cX9_runs 38 = .ok (.aload_n 0, 1) := by decide +kernel
theorem dX9_runs_39 : decode cX9_runs 39 = .ok (.getfield 105, 3) := by decide +kernel
theorem dX9_runs_42 : decode cX9_runs 42 = .ok (.iconst 0, 1) := by decide +kernel
theorem dX9_runs_43 : decode cX9_runs 43 = .ok (.iconst (-1), 1) := by decide +kernel
theorem dX9_runs_44 : decode cX9_runs 44 = .ok (.iastore, 1) := by decide +kernel
theorem dX9_runs_45 : decode cX9_runs 45 = .ok (.iload_n 2, 1) := by decide +kernel
theorem dX9_runs_46 : decode cX9_runs 46 = .ok (.ifCond .le 173, 3) := by decide +kernel
theorem dX9_runs_49 : decode cX9_runs 49 = .ok (.iload_n 3, 1) := by decide +kernel
theorem dX9_runs_50 : decode cX9_runs 50 = .ok (.ifCond .lt 169, 3) := by decide +kernel
theorem dX9_runs_53 : decode cX9_runs 53 = .ok (.aload_n 0, 1) := by decide +kernel
theorem dX9_runs_54 : decode cX9_runs 54 = .ok (.getfield 54, 3) := by decide +kernel
theorem dX9_runs_57 : decode cX9_runs 57 = .ok (.iconst 3, 1) := by decide +kernel
theorem dX9_runs_58 : decode cX9_runs 58 = .ok (.iload_n 1, 1) := by decide +kernel
theorem dX9_runs_59 : decode cX9_runs 59 = .ok (.imul, 1) := by decide +kernel
theorem dX9_runs_60 : decode cX9_runs 60 = .ok (.aload_n 0, 1) := by decide +kernel
theorem dX9_runs_61 : decode cX9_runs 61 = .ok (.getfield 93, 3) := by decide +kernel
theorem dX9_runs_64 : decode cX9_runs 64 = .ok (.iload_n 3, 1) := by decide +kernel
theorem dX9_runs_65 : decode cX9_runs 65 = .ok (.iaload, 1) := by decide +kernel
theorem dX9_runs_66 : decode cX9_runs 66 = .ok (.iadd, 1) := by decide +kernel
theorem dX9_runs_67 : decode cX9_runs 67 = .ok (.iaload, 1) := by decide +kernel
theorem dX9_runs_68 : decode cX9_runs 68 = .ok (.istore 4, 2) := by decide +kernel
theorem dX9_runs_70 : decode cX9_runs 70 = .ok (.aload_n 0, 1) := by decide +kernel
theorem dX9_runs_71 : decode cX9_runs 71 = .ok (.getfield 105, 3) := by decide +kernel
theorem dX9_runs_74 : decode cX9_runs 74 = .ok (.iload_n 3, 1) := by decide +kernel
theorem dX9_runs_75 : decode cX9_runs 75 = .ok (.dup2, 1) := by decide +kernel
theorem dX9_runs_76 : decode cX9_runs 76 = .ok (.iaload, 1) := by decide +kernel
theorem dX9_runs_77 : decode cX9_runs 77 = .ok (.iconst 1, 1) := by decide +kernel
theorem dX9_runs_78 : decode cX9_runs 78 = .ok (.iadd, 1) := by decide +kernel
theorem dX9_runs_79 : decode cX9_runs 79 = .ok (.iastore, 1) := by decide +kernel
theorem dX9_runs_80 : decode cX9_runs 80 = .ok (.aload_n 0, 1) := by decide +kernel
theorem dX9_runs_81 : decode cX9_runs 81 = .ok (.getfield 105, 3) := by decide +kernel
theorem dX9_runs_84 : decode cX9_runs 84 = .ok (.iload_n 3, 1) := by decide +kernel
theorem dX9_runs_85 : decode cX9_runs 85 = .ok (.iaload, 1) := by decide +kernel
theorem dX9_runs_86 : decode cX9_runs 86 = .ok (.aload_n 0, 1) := by decide +kernel
theorem dX9_runs_87 : decode cX9_runs 87 = .ok (.getfield 13, 3) := by decide +kernel
theorem dX9_runs_90 : decode cX9_runs 90 = .ok (.iload 4, 2) := by decide +kernel
theorem dX9_runs_92 : decode cX9_runs 92 = .ok (.iaload, 1) := by decide +kernel
theorem dX9_runs_93 : decode cX9_runs 93 = .ok (.if_icmp .lt 9, 3) := by decide +kernel
theorem dX9_runs_96 : decode cX9_runs 96 = .ok (.iinc 3 (-1), 3) := by decide +kernel
theorem dX9_runs_99 : decode cX9_runs 99 = .ok (.goto 117, 3) := by decide +kernel
theorem dX9_runs_102 : decode cX9_runs 102 = .ok (.aload_n 0, 1) := by decide +kernel
theorem dX9_runs_103 : decode cX9_runs 103 = .ok (.getfield 16, 3) := by decide +kernel
theorem dX9_runs_106 : decode cX9_runs 106 = .ok (.bipush 40, 2) := by decide +kernel
theorem dX9_runs_108 : decode cX9_runs 108 = .ok (.iload 4, 2) := by decide +kernel
theorem dX9_runs_110 : decode cX9_runs 110 = .ok (.imul, 1) := by decide +kernel
theorem dX9_runs_111 : decode cX9_runs 111 = .ok (.aload_n 0, 1) := by decide +kernel
theorem dX9_runs_112 : decode cX9_runs 112 = .ok (.getfield 105, 3) := by decide +kernel
theorem dX9_runs_115 : decode cX9_runs 115 = .ok (.iload_n 3, 1) := by decide +kernel
theorem dX9_runs_116 : decode cX9_runs 116 = .ok (.iaload, 1) := by decide +kernel
theorem dX9_runs_117 : decode cX9_runs 117 = .ok (.iadd, 1) := by decide +kernel
theorem dX9_runs_118 : decode cX9_runs 118 = .ok (.baload, 1) := by decide +kernel
theorem dX9_runs_119 : decode cX9_runs 119 = .ok (.ifCond .eq 97, 3) := by decide +kernel
theorem dX9_runs_122 : decode cX9_runs 122 = .ok (.aload_n 0, 1) := by decide +kernel
theorem dX9_runs_123 : decode cX9_runs 123 = .ok (.iload_n 1, 1) := by decide +kernel
theorem dX9_runs_124 : decode cX9_runs 124 = .ok (.iload_n 3, 1) := by decide +kernel
theorem dX9_runs_125 : decode cX9_runs 125 = .ok (.invokevirtual 232, 3) := by decide +kernel
theorem dX9_runs_128 : decode cX9_runs 128 = .ok (.ifCond .eq 88, 3) := by decide +kernel
theorem dX9_runs_131 : decode cX9_runs 131 = .ok (.iload_n 3, 1) := by decide +kernel
theorem dX9_runs_132 : decode cX9_runs 132 = .ok (.iload_n 2, 1) := by decide +kernel
theorem dX9_runs_133 : decode cX9_runs 133 = .ok (.iconst 1, 1) := by decide +kernel
theorem dX9_runs_134 : decode cX9_runs 134 = .ok (.isub, 1) := by decide +kernel
theorem dX9_runs_135 : decode cX9_runs 135 = .ok (.if_icmp .ne 56, 3) := by decide +kernel
theorem dX9_runs_138 : decode cX9_runs 138 = .ok (.aload_n 0, 1) := by decide +kernel
theorem dX9_runs_139 : decode cX9_runs 139 = .ok (.dup, 1) := by decide +kernel
theorem dX9_runs_140 : decode cX9_runs 140 = .ok (.getfield 223, 3) := by decide +kernel
theorem dX9_runs_143 : decode cX9_runs 143 = .ok (.iconst 1, 1) := by decide +kernel
theorem dX9_runs_144 : decode cX9_runs 144 = .ok (.iadd, 1) := by decide +kernel
theorem dX9_runs_145 : decode cX9_runs 145 = .ok (.putfield 223, 3) := by decide +kernel
theorem dX9_runs_148 : decode cX9_runs 148 = .ok (.aload_n 0, 1) := by decide +kernel
theorem dX9_runs_149 : decode cX9_runs 149 = .ok (.dup, 1) := by decide +kernel
theorem dX9_runs_150 : decode cX9_runs 150 = .ok (.getfield 226, 3) := by decide +kernel
theorem dX9_runs_153 : decode cX9_runs 153 = .ok (.aload_n 0, 1) := by decide +kernel
theorem dX9_runs_154 : decode cX9_runs 154 = .ok (.getfield 78, 3) := by decide +kernel
theorem dX9_runs_157 : decode cX9_runs 157 = .ok (.iload_n 1, 1) := by decide +kernel
theorem dX9_runs_158 : decode cX9_runs 158 = .ok (.iaload, 1) := by decide +kernel
theorem dX9_runs_159 : decode cX9_runs 159 = .ok (.iconst (-1), 1) := by decide +kernel
theorem dX9_runs_160 : decode cX9_runs 160 = .ok (.if_icmp .ne 7, 3) := by decide +kernel
theorem dX9_runs_163 : decode cX9_runs 163 = .ok (.iconst 0, 1) := by decide +kernel
theorem dX9_runs_164 : decode cX9_runs 164 = .ok (.goto 20, 3) := by decide +kernel
theorem dX9_runs_167 : decode cX9_runs 167 = .ok (.aload_n 0, 1) := by decide +kernel
theorem dX9_runs_168 : decode cX9_runs 168 = .ok (.iload_n 1, 1) := by decide +kernel
theorem dX9_runs_169 : decode cX9_runs 169 = .ok (.aload_n 0, 1) := by decide +kernel
theorem dX9_runs_170 : decode cX9_runs 170 = .ok (.getfield 78, 3) := by decide +kernel
theorem dX9_runs_173 : decode cX9_runs 173 = .ok (.iload_n 1, 1) := by decide +kernel
theorem dX9_runs_174 : decode cX9_runs 174 = .ok (.iaload, 1) := by decide +kernel
theorem dX9_runs_175 : decode cX9_runs 175 = .ok (.aload_n 0, 1) := by decide +kernel
theorem dX9_runs_176 : decode cX9_runs 176 = .ok (.getfield 81, 3) := by decide +kernel
theorem dX9_runs_179 : decode cX9_runs 179 = .ok (.iload_n 1, 1) := by decide +kernel
theorem dX9_runs_180 : decode cX9_runs 180 = .ok (.iaload, 1) := by decide +kernel
theorem dX9_runs_181 : decode cX9_runs 181 = .ok (.invokevirtual 214, 3) := by decide +kernel
theorem dX9_runs_184 : decode cX9_runs 184 = .ok (.iadd, 1) := by decide +kernel
theorem dX9_runs_185 : decode cX9_runs 185 = .ok (.putfield 226, 3) := by decide +kernel
theorem dX9_runs_188 : decode cX9_runs 188 = .ok (.goto 28, 3) := by decide +kernel
theorem dX9_runs_191 : decode cX9_runs 191 = .ok (.iinc 3 1, 3) := by decide +kernel
theorem dX9_runs_194 : decode cX9_runs 194 = .ok (.aload_n 0, 1) := by decide +kernel
theorem dX9_runs_195 : decode cX9_runs 195 = .ok (.dup, 1) := by decide +kernel
theorem dX9_runs_196 : decode cX9_runs 196 = .ok (.getfield 220, 3) := by decide +kernel
theorem dX9_runs_199 : decode cX9_runs 199 = .ok (.aload_n 0, 1) := by decide +kernel
theorem dX9_runs_200 : decode cX9_runs 200 = .ok (.iload_n 1, 1) := by decide +kernel
theorem dX9_runs_201 : decode cX9_runs 201 = .ok (.iload_n 3, 1) := by decide +kernel
theorem dX9_runs_202 : decode cX9_runs 202 = .ok (.invokevirtual 229, 3) := by decide +kernel
theorem dX9_runs_205 : decode cX9_runs 205 = .ok (.iadd, 1) := by decide +kernel
theorem dX9_runs_206 : decode cX9_runs 206 = .ok (.putfield 220, 3) := by decide +kernel
theorem dX9_runs_209 : decode cX9_runs 209 = .ok (.aload_n 0, 1) := by decide +kernel
theorem dX9_runs_210 : decode cX9_runs 210 = .ok (.getfield 105, 3) := by decide +kernel
theorem dX9_runs_213 : decode cX9_runs 213 = .ok (.iload_n 3, 1) := by decide +kernel
theorem dX9_runs_214 : decode cX9_runs 214 = .ok (.iconst (-1), 1) := by decide +kernel
theorem dX9_runs_215 : decode cX9_runs 215 = .ok (.iastore, 1) := by decide +kernel
theorem dX9_runs_216 : decode cX9_runs 216 = .ok (.goto (-171), 3) := by decide +kernel
theorem dX9_runs_219 : decode cX9_runs 219 = .ok (.return_, 1) := by decide +kernel
theorem dX9_planSource_0 : decode cX9_planSource 0 = .ok (.aload_n 0, 1) := by decide +kernel
theorem dX9_planSource_1 : decode cX9_planSource 1 = .ok (.aload_n 0, 1) := by decide +kernel
theorem dX9_planSource_2 : decode cX9_planSource 2 = .ok (.iload_n 1, 1) := by decide +kernel
theorem dX9_planSource_3 : decode cX9_planSource 3 = .ok (.iload_n 2, 1) := by decide +kernel
theorem dX9_planSource_4 : decode cX9_planSource 4 = .ok (.invokevirtual 128, 3) := by decide +kernel
theorem dX9_planSource_7 : decode cX9_planSource 7 = .ok (.invokevirtual 145, 3) := by decide +kernel
theorem dX9_planSource_10 : decode cX9_planSource 10 = .ok (.ifCond .ne 5, 3) := by decide +kernel
theorem dX9_planSource_13 : decode cX9_planSource 13 = .ok (.iconst 0, 1) := by decide +kernel
theorem dX9_planSource_14 : decode cX9_planSource 14 = .ok (.ireturn, 1) := by decide +kernel
theorem dX9_planSource_15 : decode cX9_planSource 15 = .ok (.aload_n 0, 1) := by decide +kernel
theorem dX9_planSource_16 : decode cX9_planSource 16 = .ok (.iload_n 1, 1) := by decide +kernel
theorem dX9_planSource_17 : decode cX9_planSource 17 = .ok (.invokevirtual 209, 3) := by decide +kernel
theorem dX9_planSource_20 : decode cX9_planSource 20 = .ok (.aload_n 0, 1) := by decide +kernel
theorem dX9_planSource_21 : decode cX9_planSource 21 = .ok (.getfield 93, 3) := by decide +kernel
theorem dX9_planSource_24 : decode cX9_planSource 24 = .ok (.iload_n 2, 1) := by decide +kernel
theorem dX9_planSource_25 : decode cX9_planSource 25 = .ok (.iaload, 1) := by decide +kernel
theorem dX9_planSource_26 : decode cX9_planSource 26 = .ok (.ireturn, 1) := by decide +kernel
theorem dX9_planWay_0 : decode cX9_planWay 0 = .ok (.aload_n 0, 1) := by decide +kernel
theorem dX9_planWay_1 : decode cX9_planWay 1 = .ok (.aload_n 0, 1) := by decide +kernel
theorem dX9_planWay_2 : decode cX9_planWay 2 = .ok (.iload_n 1, 1) := by decide +kernel
theorem dX9_planWay_3 : decode cX9_planWay 3 = .ok (.iload_n 2, 1) := by decide +kernel
theorem dX9_planWay_4 : decode cX9_planWay 4 = .ok (.invokevirtual 128, 3) := by decide +kernel
theorem dX9_planWay_7 : decode cX9_planWay 7 = .ok (.invokevirtual 145, 3) := by decide +kernel
theorem dX9_planWay_10 : decode cX9_planWay 10 = .ok (.ifCond .ne 5, 3) := by decide +kernel
theorem dX9_planWay_13 : decode cX9_planWay 13 = .ok (.iconst 0, 1) := by decide +kernel
theorem dX9_planWay_14 : decode cX9_planWay 14 = .ok (.ireturn, 1) := by decide +kernel
theorem dX9_planWay_15 : decode cX9_planWay 15 = .ok (.aload_n 0, 1) := by decide +kernel
theorem dX9_planWay_16 : decode cX9_planWay 16 = .ok (.iload_n 1, 1) := by decide +kernel
theorem dX9_planWay_17 : decode cX9_planWay 17 = .ok (.invokevirtual 209, 3) := by decide +kernel
theorem dX9_planWay_20 : decode cX9_planWay 20 = .ok (.aload_n 0, 1) := by decide +kernel
theorem dX9_planWay_21 : decode cX9_planWay 21 = .ok (.getfield 96, 3) := by decide +kernel
theorem dX9_planWay_24 : decode cX9_planWay 24 = .ok (.iload_n 2, 1) := by decide +kernel
theorem dX9_planWay_25 : decode cX9_planWay 25 = .ok (.iaload, 1) := by decide +kernel
theorem dX9_planWay_26 : decode cX9_planWay 26 = .ok (.ireturn, 1) := by decide +kernel
theorem dX9_foretold_0 : decode cX9_foretold 0 = .ok (.aload_n 0, 1) := by decide +kernel
theorem dX9_foretold_1 : decode cX9_foretold 1 = .ok (.aload_n 0, 1) := by decide +kernel
theorem dX9_foretold_2 : decode cX9_foretold 2 = .ok (.iload_n 1, 1) := by decide +kernel
theorem dX9_foretold_3 : decode cX9_foretold 3 = .ok (.invokevirtual 125, 3) := by decide +kernel
theorem dX9_foretold_6 : decode cX9_foretold 6 = .ok (.invokevirtual 145, 3) := by decide +kernel
theorem dX9_foretold_9 : decode cX9_foretold 9 = .ok (.ifCond .eq 11, 3) := by decide +kernel
theorem dX9_foretold_12 : decode cX9_foretold 12 = .ok (.aload_n 0, 1) := by decide +kernel
theorem dX9_foretold_13 : decode cX9_foretold 13 = .ok (.iload_n 1, 1) := by decide +kernel
theorem dX9_foretold_14 : decode cX9_foretold 14 = .ok (.invokevirtual 235, 3) := by decide +kernel
theorem dX9_foretold_17 : decode cX9_foretold 17 = .ok (.goto 4, 3) := by decide +kernel
theorem dX9_foretold_20 : decode cX9_foretold 20 = .ok (.iconst 0, 1) := by decide +kernel
theorem dX9_foretold_21 : decode cX9_foretold 21 = .ok (.ireturn, 1) := by decide +kernel
theorem dX9_isRun_0 : decode cX9_isRun 0 = .ok (.aload_n 0, 1) := by decide +kernel
theorem dX9_isRun_1 : decode cX9_isRun 1 = .ok (.aload_n 0, 1) := by decide +kernel
theorem dX9_isRun_2 : decode cX9_isRun 2 = .ok (.iload_n 1, 1) := by decide +kernel
theorem dX9_isRun_3 : decode cX9_isRun 3 = .ok (.invokevirtual 125, 3) := by decide +kernel
theorem dX9_isRun_6 : decode cX9_isRun 6 = .ok (.invokevirtual 145, 3) := by decide +kernel
theorem dX9_isRun_9 : decode cX9_isRun 9 = .ok (.istore_n 2, 1) := by decide +kernel
theorem dX9_isRun_10 : decode cX9_isRun 10 = .ok (.iload_n 2, 1) := by decide +kernel
theorem dX9_isRun_11 : decode cX9_isRun 11 = .ok (.ifCond .eq 13, 3) := by decide +kernel
theorem dX9_isRun_14 : decode cX9_isRun 14 = .ok (.aload_n 0, 1) := by decide +kernel
theorem dX9_isRun_15 : decode cX9_isRun 15 = .ok (.iload_n 1, 1) := by decide +kernel
theorem dX9_isRun_16 : decode cX9_isRun 16 = .ok (.invokevirtual 209, 3) := by decide +kernel
theorem dX9_isRun_19 : decode cX9_isRun 19 = .ok (.aload_n 0, 1) := by decide +kernel
theorem dX9_isRun_20 : decode cX9_isRun 20 = .ok (.iload_n 1, 1) := by decide +kernel
theorem dX9_isRun_21 : decode cX9_isRun 21 = .ok (.invokevirtual 238, 3) := by decide +kernel
theorem dX9_isRun_24 : decode cX9_isRun 24 = .ok (.iload_n 2, 1) := by decide +kernel
theorem dX9_isRun_25 : decode cX9_isRun 25 = .ok (.ireturn, 1) := by decide +kernel
theorem dX9_minutes_0 : decode cX9_minutes 0 = .ok (.aload_n 0, 1) := by decide +kernel
theorem dX9_minutes_1 : decode cX9_minutes 1 = .ok (.iload_n 1, 1) := by decide +kernel
theorem dX9_minutes_2 : decode cX9_minutes 2 = .ok (.invokevirtual 241, 3) := by decide +kernel
theorem dX9_minutes_5 : decode cX9_minutes 5 = .ok (.ifCond .eq 10, 3) := by decide +kernel
theorem dX9_minutes_8 : decode cX9_minutes 8 = .ok (.aload_n 0, 1) := by decide +kernel
theorem dX9_minutes_9 : decode cX9_minutes 9 = .ok (.getfield 220, 3) := by decide +kernel
theorem dX9_minutes_12 : decode cX9_minutes 12 = .ok (.goto 4, 3) := by decide +kernel
theorem dX9_minutes_15 : decode cX9_minutes 15 = .ok (.iconst 0, 1) := by decide +kernel
theorem dX9_minutes_16 : decode cX9_minutes 16 = .ok (.ireturn, 1) := by decide +kernel
theorem dX9_answer_0 : decode cX9_answer 0 = .ok (.aload_n 0, 1) := by decide +kernel
theorem dX9_answer_1 : decode cX9_answer 1 = .ok (.iload_n 1, 1) := by decide +kernel
theorem dX9_answer_2 : decode cX9_answer 2 = .ok (.invokevirtual 241, 3) := by decide +kernel
theorem dX9_answer_5 : decode cX9_answer 5 = .ok (.ifCond .eq 10, 3) := by decide +kernel
theorem dX9_answer_8 : decode cX9_answer 8 = .ok (.aload_n 0, 1) := by decide +kernel
theorem dX9_answer_9 : decode cX9_answer 9 = .ok (.getfield 223, 3) := by decide +kernel
theorem dX9_answer_12 : decode cX9_answer 12 = .ok (.goto 4, 3) := by decide +kernel
theorem dX9_answer_15 : decode cX9_answer 15 = .ok (.iconst 0, 1) := by decide +kernel
theorem dX9_answer_16 : decode cX9_answer 16 = .ok (.ireturn, 1) := by decide +kernel
theorem dX9_sum_0 : decode cX9_sum 0 = .ok (.aload_n 0, 1) := by decide +kernel
theorem dX9_sum_1 : decode cX9_sum 1 = .ok (.iload_n 1, 1) := by decide +kernel
theorem dX9_sum_2 : decode cX9_sum 2 = .ok (.invokevirtual 241, 3) := by decide +kernel
theorem dX9_sum_5 : decode cX9_sum 5 = .ok (.ifCond .eq 10, 3) := by decide +kernel
theorem dX9_sum_8 : decode cX9_sum 8 = .ok (.aload_n 0, 1) := by decide +kernel
theorem dX9_sum_9 : decode cX9_sum 9 = .ok (.getfield 226, 3) := by decide +kernel
theorem dX9_sum_12 : decode cX9_sum 12 = .ok (.goto 4, 3) := by decide +kernel
theorem dX9_sum_15 : decode cX9_sum 15 = .ok (.iconst 0, 1) := by decide +kernel
theorem dX9_sum_16 : decode cX9_sum 16 = .ok (.ireturn, 1) := by decide +kernel
theorem dX9_plainAnswer_0 : decode cX9_plainAnswer 0 = .ok (.aload_n 0, 1) := by decide +kernel
theorem dX9_plainAnswer_1 : decode cX9_plainAnswer 1 = .ok (.iload_n 1, 1) := by decide +kernel
theorem dX9_plainAnswer_2 : decode cX9_plainAnswer 2 = .ok (.invokevirtual 244, 3) := by decide +kernel
theorem dX9_plainAnswer_5 : decode cX9_plainAnswer 5 = .ok (.ireturn, 1) := by decide +kernel
theorem dX9_plainSum_0 : decode cX9_plainSum 0 = .ok (.aload_n 0, 1) := by decide +kernel
theorem dX9_plainSum_1 : decode cX9_plainSum 1 = .ok (.iload_n 1, 1) := by decide +kernel
theorem dX9_plainSum_2 : decode cX9_plainSum 2 = .ok (.invokevirtual 247, 3) := by decide +kernel
theorem dX9_plainSum_5 : decode cX9_plainSum 5 = .ok (.ireturn, 1) := by decide +kernel
theorem dX9_marks_0 : decode cX9_marks 0 = .ok (.iconst 0, 1) := by decide +kernel
theorem dX9_marks_1 : decode cX9_marks 1 = .ok (.istore_n 2, 1) := by decide +kernel
theorem dX9_marks_2 : decode cX9_marks 2 = .ok (.iload_n 2, 1) := by decide +kernel
theorem dX9_marks_3 : decode cX9_marks 3 = .ok (.aload_n 0, 1) := by decide +kernel
theorem dX9_marks_4 : decode cX9_marks 4 = .ok (.getfield 51, 3) := by decide +kernel
theorem dX9_marks_7 : decode cX9_marks 7 = .ok (.iload_n 1, 1) := by decide +kernel
theorem dX9_marks_8 : decode cX9_marks 8 = .ok (.iaload, 1) := by decide +kernel
theorem dX9_marks_9 : decode cX9_marks 9 = .ok (.if_icmp .ge 25, 3) := by decide +kernel
theorem dX9_marks_12 : decode cX9_marks 12 = .ok (.aload_n 0, 1) := by decide +kernel
theorem dX9_marks_13 : decode cX9_marks 13 = .ok (.getfield 38, 3) := by decide +kernel
theorem dX9_marks_16 : decode cX9_marks 16 = .ok (.aload_n 0, 1) := by decide +kernel
theorem dX9_marks_17 : decode cX9_marks 17 = .ok (.getfield 54, 3) := by decide +kernel
theorem dX9_marks_20 : decode cX9_marks 20 = .ok (.iconst 3, 1) := by decide +kernel
theorem dX9_marks_21 : decode cX9_marks 21 = .ok (.iload_n 1, 1) := by decide +kernel
theorem dX9_marks_22 : decode cX9_marks 22 = .ok (.imul, 1) := by decide +kernel
theorem dX9_marks_23 : decode cX9_marks 23 = .ok (.iload_n 2, 1) := by decide +kernel
theorem dX9_marks_24 : decode cX9_marks 24 = .ok (.iadd, 1) := by decide +kernel
theorem dX9_marks_25 : decode cX9_marks 25 = .ok (.iaload, 1) := by decide +kernel
theorem dX9_marks_26 : decode cX9_marks 26 = .ok (.iconst 1, 1) := by decide +kernel
theorem dX9_marks_27 : decode cX9_marks 27 = .ok (.bastore, 1) := by decide +kernel
theorem dX9_marks_28 : decode cX9_marks 28 = .ok (.iinc 2 1, 3) := by decide +kernel
theorem dX9_marks_31 : decode cX9_marks 31 = .ok (.goto (-29), 3) := by decide +kernel
theorem dX9_marks_34 : decode cX9_marks 34 = .ok (.return_, 1) := by decide +kernel
theorem dX9_dueBehind_0 : decode cX9_dueBehind 0 = .ok (.iconst (-1), 1) := by decide +kernel
theorem dX9_dueBehind_1 : decode cX9_dueBehind 1 = .ok (.istore_n 2, 1) := by decide +kernel
theorem dX9_dueBehind_2 : decode cX9_dueBehind 2 = .ok (.iconst 0, 1) := by decide +kernel
theorem dX9_dueBehind_3 : decode cX9_dueBehind 3 = .ok (.istore_n 3, 1) := by decide +kernel
theorem dX9_dueBehind_4 : decode cX9_dueBehind 4 = .ok (.iload_n 3, 1) := by decide +kernel
theorem dX9_dueBehind_5 : decode cX9_dueBehind 5 = .ok (.aload_n 0, 1) := by decide +kernel
theorem dX9_dueBehind_6 : decode cX9_dueBehind 6 = .ok (.getfield 122, 3) := by decide +kernel
theorem dX9_dueBehind_9 : decode cX9_dueBehind 9 = .ok (.if_icmp .ge 96, 3) := by decide +kernel
theorem dX9_dueBehind_12 : decode cX9_dueBehind 12 = .ok (.iload_n 1, 1) := by decide +kernel
theorem dX9_dueBehind_13 : decode cX9_dueBehind 13 = .ok (.iconst (-1), 1) := by decide +kernel
theorem dX9_dueBehind_14 : decode cX9_dueBehind 14 = .ok (.if_icmp .eq 38, 3) := by decide +kernel
theorem dX9_dueBehind_17 : decode cX9_dueBehind 17 = .ok (.aload_n 0, 1) := by decide +kernel
theorem dX9_dueBehind_18 : decode cX9_dueBehind 18 = .ok (.getfield 45, 3) := by decide +kernel
theorem dX9_dueBehind_21 : decode cX9_dueBehind 21 = .ok (.iload_n 3, 1) := by decide +kernel
theorem dX9_dueBehind_22 : decode cX9_dueBehind 22 = .ok (.iaload, 1) := by decide +kernel
theorem dX9_dueBehind_23 : decode cX9_dueBehind 23 = .ok (.aload_n 0, 1) := by decide +kernel
theorem dX9_dueBehind_24 : decode cX9_dueBehind 24 = .ok (.getfield 45, 3) := by decide +kernel
theorem dX9_dueBehind_27 : decode cX9_dueBehind 27 = .ok (.iload_n 1, 1) := by decide +kernel
theorem dX9_dueBehind_28 : decode cX9_dueBehind 28 = .ok (.iaload, 1) := by decide +kernel
theorem dX9_dueBehind_29 : decode cX9_dueBehind 29 = .ok (.if_icmp .lt 23, 3) := by decide +kernel
theorem dX9_dueBehind_32 : decode cX9_dueBehind 32 = .ok (.aload_n 0, 1) := by decide +kernel
theorem dX9_dueBehind_33 : decode cX9_dueBehind 33 = .ok (.getfield 45, 3) := by decide +kernel
theorem dX9_dueBehind_36 : decode cX9_dueBehind 36 = .ok (.iload_n 3, 1) := by decide +kernel
theorem dX9_dueBehind_37 : decode cX9_dueBehind 37 = .ok (.iaload, 1) := by decide +kernel
theorem dX9_dueBehind_38 : decode cX9_dueBehind 38 = .ok (.aload_n 0, 1) := by decide +kernel
theorem dX9_dueBehind_39 : decode cX9_dueBehind 39 = .ok (.getfield 45, 3) := by decide +kernel
theorem dX9_dueBehind_42 : decode cX9_dueBehind 42 = .ok (.iload_n 1, 1) := by decide +kernel
theorem dX9_dueBehind_43 : decode cX9_dueBehind 43 = .ok (.iaload, 1) := by decide +kernel
theorem dX9_dueBehind_44 : decode cX9_dueBehind 44 = .ok (.if_icmp .ne 12, 3) := by decide +kernel
theorem dX9_dueBehind_47 : decode cX9_dueBehind 47 = .ok (.iload_n 3, 1) := by decide +kernel
theorem dX9_dueBehind_48 : decode cX9_dueBehind 48 = .ok (.iload_n 1, 1) := by decide +kernel
theorem dX9_dueBehind_49 : decode cX9_dueBehind 49 = .ok (.if_icmp .le 7, 3) := by decide +kernel
theorem dX9_dueBehind_52 : decode cX9_dueBehind 52 = .ok (.iconst 1, 1) := by decide +kernel
theorem dX9_dueBehind_53 : decode cX9_dueBehind 53 = .ok (.goto 4, 3) := by decide +kernel
theorem dX9_dueBehind_56 : decode cX9_dueBehind 56 = .ok (.iconst 0, 1) := by decide +kernel
theorem dX9_dueBehind_57 : decode cX9_dueBehind 57 = .ok (.istore 4, 2) := by decide +kernel
theorem dX9_dueBehind_59 : decode cX9_dueBehind 59 = .ok (.aload_n 0, 1) := by decide +kernel
theorem dX9_dueBehind_60 : decode cX9_dueBehind 60 = .ok (.getfield 48, 3) := by decide +kernel
theorem dX9_dueBehind_63 : decode cX9_dueBehind 63 = .ok (.iload_n 3, 1) := by decide +kernel
theorem dX9_dueBehind_64 : decode cX9_dueBehind 64 = .ok (.baload, 1) := by decide +kernel
theorem dX9_dueBehind_65 : decode cX9_dueBehind 65 = .ok (.ifCond .eq 32, 3) := by decide +kernel
theorem dX9_dueBehind_68 : decode cX9_dueBehind 68 = .ok (.iload 4, 2) := by decide +kernel
theorem dX9_dueBehind_70 : decode cX9_dueBehind 70 = .ok (.ifCond .eq 27, 3) := by decide +kernel
theorem dX9_dueBehind_73 : decode cX9_dueBehind 73 = .ok (.iload_n 2, 1) := by decide +kernel
theorem dX9_dueBehind_74 : decode cX9_dueBehind 74 = .ok (.iconst (-1), 1) := by decide +kernel
theorem dX9_dueBehind_75 : decode cX9_dueBehind 75 = .ok (.if_icmp .eq 18, 3) := by decide +kernel
theorem dX9_dueBehind_78 : decode cX9_dueBehind 78 = .ok (.aload_n 0, 1) := by decide +kernel
theorem dX9_dueBehind_79 : decode cX9_dueBehind 79 = .ok (.getfield 45, 3) := by decide +kernel
theorem dX9_dueBehind_82 : decode cX9_dueBehind 82 = .ok (.iload_n 3, 1) := by decide +kernel
theorem dX9_dueBehind_83 : decode cX9_dueBehind 83 = .ok (.iaload, 1) := by decide +kernel
theorem dX9_dueBehind_84 : decode cX9_dueBehind 84 = .ok (.aload_n 0, 1) := by decide +kernel
theorem dX9_dueBehind_85 : decode cX9_dueBehind 85 = .ok (.getfield 45, 3) := by decide +kernel
theorem dX9_dueBehind_88 : decode cX9_dueBehind 88 = .ok (.iload_n 2, 1) := by decide +kernel
theorem dX9_dueBehind_89 : decode cX9_dueBehind 89 = .ok (.iaload, 1) := by decide +kernel
theorem dX9_dueBehind_90 : decode cX9_dueBehind 90 = .ok (.if_icmp .le 7, 3) := by decide +kernel
theorem dX9_dueBehind_93 : decode cX9_dueBehind 93 = .ok (.iload_n 3, 1) := by decide +kernel
theorem dX9_dueBehind_94 : decode cX9_dueBehind 94 = .ok (.goto 4, 3) := by decide +kernel
theorem dX9_dueBehind_97 : decode cX9_dueBehind 97 = .ok (.iload_n 2, 1) := by decide +kernel
theorem dX9_dueBehind_98 : decode cX9_dueBehind 98 = .ok (.istore_n 2, 1) := by decide +kernel
theorem dX9_dueBehind_99 : decode cX9_dueBehind 99 = .ok (.iinc 3 1, 3) := by decide +kernel
theorem dX9_dueBehind_102 : decode cX9_dueBehind 102 = .ok (.goto (-98), 3) := by decide +kernel
theorem dX9_dueBehind_105 : decode cX9_dueBehind 105 = .ok (.iload_n 2, 1) := by decide +kernel
theorem dX9_dueBehind_106 : decode cX9_dueBehind 106 = .ok (.ireturn, 1) := by decide +kernel
theorem dX9_dusk_0 : decode cX9_dusk 0 = .ok (.iconst 0, 1) := by decide +kernel
theorem dX9_dusk_1 : decode cX9_dusk 1 = .ok (.istore_n 1, 1) := by decide +kernel
theorem dX9_dusk_2 : decode cX9_dusk 2 = .ok (.iconst 0, 1) := by decide +kernel
theorem dX9_dusk_3 : decode cX9_dusk 3 = .ok (.istore_n 2, 1) := by decide +kernel
theorem dX9_dusk_4 : decode cX9_dusk 4 = .ok (.iload_n 2, 1) := by decide +kernel
theorem dX9_dusk_5 : decode cX9_dusk 5 = .ok (.aload_n 0, 1) := by decide +kernel
theorem dX9_dusk_6 : decode cX9_dusk 6 = .ok (.getfield 111, 3) := by decide +kernel
theorem dX9_dusk_9 : decode cX9_dusk 9 = .ok (.if_icmp .ge 34, 3) := by decide +kernel
theorem dX9_dusk_12 : decode cX9_dusk 12 = .ok (.iload_n 1, 1) := by decide +kernel
theorem dX9_dusk_13 : decode cX9_dusk 13 = .ok (.aload_n 0, 1) := by decide +kernel
theorem dX9_dusk_14 : decode cX9_dusk 14 = .ok (.getfield 38, 3) := by decide +kernel
theorem dX9_dusk_17 : decode cX9_dusk 17 = .ok (.iload_n 2, 1) := by decide +kernel
theorem dX9_dusk_18 : decode cX9_dusk 18 = .ok (.baload, 1) := by decide +kernel
theorem dX9_dusk_19 : decode cX9_dusk 19 = .ok (.ifCond .eq 15, 3) := by decide +kernel
theorem dX9_dusk_22 : decode cX9_dusk 22 = .ok (.aload_n 0, 1) := by decide +kernel
theorem dX9_dusk_23 : decode cX9_dusk 23 = .ok (.iload_n 2, 1) := by decide +kernel
theorem dX9_dusk_24 : decode cX9_dusk 24 = .ok (.aload_n 0, 1) := by decide +kernel
theorem dX9_dusk_25 : decode cX9_dusk 25 = .ok (.getfield 41, 3) := by decide +kernel
theorem dX9_dusk_28 : decode cX9_dusk 28 = .ok (.invokevirtual 163, 3) := by decide +kernel
theorem dX9_dusk_31 : decode cX9_dusk 31 = .ok (.goto 4, 3) := by decide +kernel
theorem dX9_dusk_34 : decode cX9_dusk 34 = .ok (.iconst 0, 1) := by decide +kernel
theorem dX9_dusk_35 : decode cX9_dusk 35 = .ok (.iadd, 1) := by decide +kernel
theorem dX9_dusk_36 : decode cX9_dusk 36 = .ok (.istore_n 1, 1) := by decide +kernel
theorem dX9_dusk_37 : decode cX9_dusk 37 = .ok (.iinc 2 1, 3) := by decide +kernel
theorem dX9_dusk_40 : decode cX9_dusk 40 = .ok (.goto (-36), 3) := by decide +kernel
theorem dX9_dusk_43 : decode cX9_dusk 43 = .ok (.iconst 0, 1) := by decide +kernel
theorem dX9_dusk_44 : decode cX9_dusk 44 = .ok (.istore_n 2, 1) := by decide +kernel
theorem dX9_dusk_45 : decode cX9_dusk 45 = .ok (.iload_n 2, 1) := by decide +kernel
theorem dX9_dusk_46 : decode cX9_dusk 46 = .ok (.aload_n 0, 1) := by decide +kernel
theorem dX9_dusk_47 : decode cX9_dusk 47 = .ok (.getfield 122, 3) := by decide +kernel
theorem dX9_dusk_50 : decode cX9_dusk 50 = .ok (.if_icmp .ge 30, 3) := by decide +kernel
theorem dX9_dusk_53 : decode cX9_dusk 53 = .ok (.iload_n 1, 1) := by decide +kernel
theorem dX9_dusk_54 : decode cX9_dusk 54 = .ok (.aload_n 0, 1) := by decide +kernel
theorem dX9_dusk_55 : decode cX9_dusk 55 = .ok (.getfield 48, 3) := by decide +kernel
theorem dX9_dusk_58 : decode cX9_dusk 58 = .ok (.iload_n 2, 1) := by decide +kernel
theorem dX9_dusk_59 : decode cX9_dusk 59 = .ok (.baload, 1) := by decide +kernel
theorem dX9_dusk_60 : decode cX9_dusk 60 = .ok (.ifCond .eq 11, 3) := by decide +kernel
theorem dX9_dusk_63 : decode cX9_dusk 63 = .ok (.aload_n 0, 1) := by decide +kernel
theorem dX9_dusk_64 : decode cX9_dusk 64 = .ok (.iload_n 2, 1) := by decide +kernel
theorem dX9_dusk_65 : decode cX9_dusk 65 = .ok (.invokevirtual 235, 3) := by decide +kernel
theorem dX9_dusk_68 : decode cX9_dusk 68 = .ok (.goto 4, 3) := by decide +kernel
theorem dX9_dusk_71 : decode cX9_dusk 71 = .ok (.iconst 0, 1) := by decide +kernel
theorem dX9_dusk_72 : decode cX9_dusk 72 = .ok (.iadd, 1) := by decide +kernel
theorem dX9_dusk_73 : decode cX9_dusk 73 = .ok (.istore_n 1, 1) := by decide +kernel
theorem dX9_dusk_74 : decode cX9_dusk 74 = .ok (.iinc 2 1, 3) := by decide +kernel
theorem dX9_dusk_77 : decode cX9_dusk 77 = .ok (.goto (-32), 3) := by decide +kernel
theorem dX9_dusk_80 : decode cX9_dusk 80 = .ok (.iload_n 1, 1) := by decide +kernel
theorem dX9_dusk_81 : decode cX9_dusk 81 = .ok (.ireturn, 1) := by decide +kernel
theorem dX9_night_0 : decode cX9_night 0 = .ok (.aload_n 0, 1) := by decide +kernel
theorem dX9_night_1 : decode cX9_night 1 = .ok (.iload_n 1, 1) := by decide +kernel
theorem dX9_night_2 : decode cX9_night 2 = .ok (.iconst 0, 1) := by decide +kernel
theorem dX9_night_3 : decode cX9_night 3 = .ok (.sipush 1000, 3) := by decide +kernel
theorem dX9_night_6 : decode cX9_night 6 = .ok (.invokestatic 114, 3) := by decide +kernel
theorem dX9_night_9 : decode cX9_night 9 = .ok (.aload_n 0, 1) := by decide +kernel
theorem dX9_night_10 : decode cX9_night 10 = .ok (.getfield 250, 3) := by decide +kernel
theorem dX9_night_13 : decode cX9_night 13 = .ok (.sipush 500, 3) := by decide +kernel
theorem dX9_night_16 : decode cX9_night 16 = .ok (.if_icmp .ge 7, 3) := by decide +kernel
theorem dX9_night_19 : decode cX9_night 19 = .ok (.iconst 1, 1) := by decide +kernel
theorem dX9_night_20 : decode cX9_night 20 = .ok (.goto 4, 3) := by decide +kernel
theorem dX9_night_23 : decode cX9_night 23 = .ok (.iconst 0, 1) := by decide +kernel
theorem dX9_night_24 : decode cX9_night 24 = .ok (.invokevirtual 135, 3) := by decide +kernel
theorem dX9_night_27 : decode cX9_night 27 = .ok (.ifCond .ne 5, 3) := by decide +kernel
theorem dX9_night_30 : decode cX9_night 30 = .ok (.iconst 0, 1) := by decide +kernel
theorem dX9_night_31 : decode cX9_night 31 = .ok (.ireturn, 1) := by decide +kernel
theorem dX9_night_32 : decode cX9_night 32 = .ok (.aload_n 0, 1) := by decide +kernel
theorem dX9_night_33 : decode cX9_night 33 = .ok (.aload_n 0, 1) := by decide +kernel
theorem dX9_night_34 : decode cX9_night 34 = .ok (.invokevirtual 253, 3) := by decide +kernel
theorem dX9_night_37 : decode cX9_night 37 = .ok (.iload_n 1, 1) := by decide +kernel
theorem dX9_night_38 : decode cX9_night 38 = .ok (.iadd, 1) := by decide +kernel
theorem dX9_night_39 : decode cX9_night 39 = .ok (.putfield 257, 3) := by decide +kernel
theorem dX9_night_42 : decode cX9_night 42 = .ok (.aload_n 0, 1) := by decide +kernel
theorem dX9_night_43 : decode cX9_night 43 = .ok (.dup, 1) := by decide +kernel
theorem dX9_night_44 : decode cX9_night 44 = .ok (.getfield 260, 3) := by decide +kernel
theorem dX9_night_47 : decode cX9_night 47 = .ok (.aload_n 0, 1) := by decide +kernel
theorem dX9_night_48 : decode cX9_night 48 = .ok (.getfield 257, 3) := by decide +kernel
theorem dX9_night_51 : decode cX9_night 51 = .ok (.iadd, 1) := by decide +kernel
theorem dX9_night_52 : decode cX9_night 52 = .ok (.putfield 260, 3) := by decide +kernel
theorem dX9_night_55 : decode cX9_night 55 = .ok (.iconst 0, 1) := by decide +kernel
theorem dX9_night_56 : decode cX9_night 56 = .ok (.istore_n 2, 1) := by decide +kernel
theorem dX9_night_57 : decode cX9_night 57 = .ok (.iload_n 2, 1) := by decide +kernel
theorem dX9_night_58 : decode cX9_night 58 = .ok (.aload_n 0, 1) := by decide +kernel
theorem dX9_night_59 : decode cX9_night 59 = .ok (.getfield 111, 3) := by decide +kernel
theorem dX9_night_62 : decode cX9_night 62 = .ok (.if_icmp .ge 68, 3) := by decide +kernel
theorem dX9_night_65 : decode cX9_night 65 = .ok (.aload_n 0, 1) := by decide +kernel
theorem dX9_night_66 : decode cX9_night 66 = .ok (.getfield 38, 3) := by decide +kernel
theorem dX9_night_69 : decode cX9_night 69 = .ok (.iload_n 2, 1) := by decide +kernel
theorem dX9_night_70 : decode cX9_night 70 = .ok (.baload, 1) := by decide +kernel
theorem dX9_night_71 : decode cX9_night 71 = .ok (.ifCond .eq 53, 3) := by decide +kernel
theorem dX9_night_74 : decode cX9_night 74 = .ok (.aload_n 0, 1) := by decide +kernel
theorem dX9_night_75 : decode cX9_night 75 = .ok (.iload_n 2, 1) := by decide +kernel
theorem dX9_night_76 : decode cX9_night 76 = .ok (.aload_n 0, 1) := by decide +kernel
theorem dX9_night_77 : decode cX9_night 77 = .ok (.getfield 41, 3) := by decide +kernel
theorem dX9_night_80 : decode cX9_night 80 = .ok (.invokevirtual 163, 3) := by decide +kernel
theorem dX9_night_83 : decode cX9_night 83 = .ok (.aload_n 0, 1) := by decide +kernel
theorem dX9_night_84 : decode cX9_night 84 = .ok (.getfield 257, 3) := by decide +kernel
theorem dX9_night_87 : decode cX9_night 87 = .ok (.if_icmp .gt 37, 3) := by decide +kernel
theorem dX9_night_90 : decode cX9_night 90 = .ok (.aload_n 0, 1) := by decide +kernel
theorem dX9_night_91 : decode cX9_night 91 = .ok (.iload_n 2, 1) := by decide +kernel
theorem dX9_night_92 : decode cX9_night 92 = .ok (.aload_n 0, 1) := by decide +kernel
theorem dX9_night_93 : decode cX9_night 93 = .ok (.getfield 41, 3) := by decide +kernel
theorem dX9_night_96 : decode cX9_night 96 = .ok (.invokevirtual 159, 3) := by decide +kernel
theorem dX9_night_99 : decode cX9_night 99 = .ok (.aload_n 0, 1) := by decide +kernel
theorem dX9_night_100 : decode cX9_night 100 = .ok (.dup, 1) := by decide +kernel
theorem dX9_night_101 : decode cX9_night 101 = .ok (.getfield 257, 3) := by decide +kernel
theorem dX9_night_104 : decode cX9_night 104 = .ok (.aload_n 0, 1) := by decide +kernel
theorem dX9_night_105 : decode cX9_night 105 = .ok (.iload_n 2, 1) := by decide +kernel
theorem dX9_night_106 : decode cX9_night 106 = .ok (.aload_n 0, 1) := by decide +kernel
theorem dX9_night_107 : decode cX9_night 107 = .ok (.getfield 41, 3) := by decide +kernel
theorem dX9_night_110 : decode cX9_night 110 = .ok (.invokevirtual 163, 3) := by decide +kernel
theorem dX9_night_113 : decode cX9_night 113 = .ok (.isub, 1) := by decide +kernel
theorem dX9_night_114 : decode cX9_night 114 = .ok (.putfield 257, 3) := by decide +kernel
theorem dX9_night_117 : decode cX9_night 117 = .ok (.aload_n 0, 1) := by decide +kernel
theorem dX9_night_118 : decode cX9_night 118 = .ok (.getfield 38, 3) := by decide +kernel
theorem dX9_night_121 : decode cX9_night 121 = .ok (.iload_n 2, 1) := by decide +kernel
theorem dX9_night_122 : decode cX9_night 122 = .ok (.iconst 0, 1) := by decide +kernel
theorem dX9_night_123 : decode cX9_night 123 = .ok (.bastore, 1) := by decide +kernel
theorem dX9_night_124 : decode cX9_night 124 = .ok (.iinc 2 1, 3) := by decide +kernel
theorem dX9_night_127 : decode cX9_night 127 = .ok (.goto (-70), 3) := by decide +kernel
theorem dX9_night_130 : decode cX9_night 130 = .ok (.iconst 0, 1) := by decide +kernel
theorem dX9_night_131 : decode cX9_night 131 = .ok (.istore_n 2, 1) := by decide +kernel
theorem dX9_night_132 : decode cX9_night 132 = .ok (.iconst 0, 1) := by decide +kernel
theorem dX9_night_133 : decode cX9_night 133 = .ok (.istore_n 3, 1) := by decide +kernel
theorem dX9_night_134 : decode cX9_night 134 = .ok (.aload_n 0, 1) := by decide +kernel
theorem dX9_night_135 : decode cX9_night 135 = .ok (.iconst (-1), 1) := by decide +kernel
theorem dX9_night_136 : decode cX9_night 136 = .ok (.invokevirtual 263, 3) := by decide +kernel
theorem dX9_night_139 : decode cX9_night 139 = .ok (.istore 4, 2) := by decide +kernel
theorem dX9_night_141 : decode cX9_night 141 = .ok (.iconst 0, 1) := by decide +kernel
theorem dX9_night_142 : decode cX9_night 142 = .ok (.istore 5, 2) := by decide +kernel
theorem dX9_night_144 : decode cX9_night 144 = .ok (.iload 4, 2) := by decide +kernel
theorem dX9_night_146 : decode cX9_night 146 = .ok (.iconst (-1), 1) := by decide +kernel
theorem dX9_night_147 : decode cX9_night 147 = .ok (.if_icmp .eq 142, 3) := by decide +kernel
theorem dX9_night_150 : decode cX9_night 150 = .ok (.iload 5, 2) := by decide +kernel
theorem dX9_night_152 : decode cX9_night 152 = .ok (.ifCond .ne 137, 3) := by decide +kernel
theorem dX9_night_155 : decode cX9_night 155 = .ok (.aload_n 0, 1) := by decide +kernel
theorem dX9_night_156 : decode cX9_night 156 = .ok (.iload 4, 2) := by decide +kernel
theorem dX9_night_158 : decode cX9_night 158 = .ok (.invokevirtual 235, 3) := by decide +kernel
theorem dX9_night_161 : decode cX9_night 161 = .ok (.istore 6, 2) := by decide +kernel
theorem dX9_night_163 : decode cX9_night 163 = .ok (.aload_n 0, 1) := by decide +kernel
theorem dX9_night_164 : decode cX9_night 164 = .ok (.iload 4, 2) := by decide +kernel
theorem dX9_night_166 : decode cX9_night 166 = .ok (.invokevirtual 238, 3) := by decide +kernel
theorem dX9_night_169 : decode cX9_night 169 = .ok (.aload_n 0, 1) := by decide +kernel
theorem dX9_night_170 : decode cX9_night 170 = .ok (.getfield 220, 3) := by decide +kernel
theorem dX9_night_173 : decode cX9_night 173 = .ok (.aload_n 0, 1) := by decide +kernel
theorem dX9_night_174 : decode cX9_night 174 = .ok (.getfield 257, 3) := by decide +kernel
theorem dX9_night_177 : decode cX9_night 177 = .ok (.if_icmp .le 7, 3) := by decide +kernel
theorem dX9_night_180 : decode cX9_night 180 = .ok (.iconst 1, 1) := by decide +kernel
theorem dX9_night_181 : decode cX9_night 181 = .ok (.goto 4, 3) := by decide +kernel
theorem dX9_night_184 : decode cX9_night 184 = .ok (.iconst 0, 1) := by decide +kernel
theorem dX9_night_185 : decode cX9_night 185 = .ok (.istore 5, 2) := by decide +kernel
theorem dX9_night_187 : decode cX9_night 187 = .ok (.iload 5, 2) := by decide +kernel
theorem dX9_night_189 : decode cX9_night 189 = .ok (.ifCond .ne 97, 3) := by decide +kernel
theorem dX9_night_192 : decode cX9_night 192 = .ok (.aload_n 0, 1) := by decide +kernel
theorem dX9_night_193 : decode cX9_night 193 = .ok (.dup, 1) := by decide +kernel
theorem dX9_night_194 : decode cX9_night 194 = .ok (.getfield 257, 3) := by decide +kernel
theorem dX9_night_197 : decode cX9_night 197 = .ok (.aload_n 0, 1) := by decide +kernel
theorem dX9_night_198 : decode cX9_night 198 = .ok (.getfield 220, 3) := by decide +kernel
theorem dX9_night_201 : decode cX9_night 201 = .ok (.isub, 1) := by decide +kernel
theorem dX9_night_202 : decode cX9_night 202 = .ok (.putfield 257, 3) := by decide +kernel
theorem dX9_night_205 : decode cX9_night 205 = .ok (.aload_n 0, 1) := by decide +kernel
theorem dX9_night_206 : decode cX9_night 206 = .ok (.getfield 84, 3) := by decide +kernel
theorem dX9_night_209 : decode cX9_night 209 = .ok (.iload 4, 2) := by decide +kernel
theorem dX9_night_211 : decode cX9_night 211 = .ok (.aload_n 0, 1) := by decide +kernel
theorem dX9_night_212 : decode cX9_night 212 = .ok (.getfield 223, 3) := by decide +kernel
theorem dX9_night_215 : decode cX9_night 215 = .ok (.iastore, 1) := by decide +kernel
theorem dX9_night_216 : decode cX9_night 216 = .ok (.aload_n 0, 1) := by decide +kernel
theorem dX9_night_217 : decode cX9_night 217 = .ok (.getfield 87, 3) := by decide +kernel
theorem dX9_night_220 : decode cX9_night 220 = .ok (.iload 4, 2) := by decide +kernel
theorem dX9_night_222 : decode cX9_night 222 = .ok (.aload_n 0, 1) := by decide +kernel
theorem dX9_night_223 : decode cX9_night 223 = .ok (.getfield 226, 3) := by decide +kernel
theorem dX9_night_226 : decode cX9_night 226 = .ok (.iastore, 1) := by decide +kernel
theorem dX9_night_227 : decode cX9_night 227 = .ok (.aload_n 0, 1) := by decide +kernel
theorem dX9_night_228 : decode cX9_night 228 = .ok (.getfield 90, 3) := by decide +kernel
theorem dX9_night_231 : decode cX9_night 231 = .ok (.iload 4, 2) := by decide +kernel
theorem dX9_night_233 : decode cX9_night 233 = .ok (.aload_n 0, 1) := by decide +kernel
theorem dX9_night_234 : decode cX9_night 234 = .ok (.getfield 250, 3) := by decide +kernel
theorem dX9_night_237 : decode cX9_night 237 = .ok (.iastore, 1) := by decide +kernel
theorem dX9_night_238 : decode cX9_night 238 = .ok (.iload_n 3, 1) := by decide +kernel
theorem dX9_night_239 : decode cX9_night 239 = .ok (.aload_n 0, 1) := by decide +kernel
theorem dX9_night_240 : decode cX9_night 240 = .ok (.getfield 220, 3) := by decide +kernel
theorem dX9_night_243 : decode cX9_night 243 = .ok (.iconst 2, 1) := by decide +kernel
theorem dX9_night_244 : decode cX9_night 244 = .ok (.iload 6, 2) := by decide +kernel
theorem dX9_night_246 : decode cX9_night 246 = .ok (.imul, 1) := by decide +kernel
theorem dX9_night_247 : decode cX9_night 247 = .ok (.if_icmp .gt 14, 3) := by decide +kernel
theorem dX9_night_250 : decode cX9_night 250 = .ok (.iload 6, 2) := by decide +kernel
theorem dX9_night_252 : decode cX9_night 252 = .ok (.iconst 2, 1) := by decide +kernel
theorem dX9_night_253 : decode cX9_night 253 = .ok (.aload_n 0, 1) := by decide +kernel
theorem dX9_night_254 : decode cX9_night 254 = .ok (.getfield 220, 3) := by decide +kernel
theorem dX9_night_257 : decode cX9_night 257 = .ok (.imul, 1) := by decide +kernel
theorem dX9_night_258 : decode cX9_night 258 = .ok (.if_icmp .le 10, 3) := by decide +kernel
theorem dX9_night_261 : decode cX9_night 261 = .ok (.iconst 1, 1) := by decide +kernel
theorem dX9_night_262 : decode cX9_night 262 = .ok (.iload 4, 2) := by decide +kernel
theorem dX9_night_264 : decode cX9_night 264 = .ok (.ishl, 1) := by decide +kernel
theorem dX9_night_265 : decode cX9_night 265 = .ok (.goto 4, 3) := by decide +kernel
theorem dX9_night_268 : decode cX9_night 268 = .ok (.iconst 0, 1) := by decide +kernel
theorem dX9_night_269 : decode cX9_night 269 = .ok (.ior, 1) := by decide +kernel
theorem dX9_night_270 : decode cX9_night 270 = .ok (.istore_n 3, 1) := by decide +kernel
theorem dX9_night_271 : decode cX9_night 271 = .ok (.iload_n 2, 1) := by decide +kernel
theorem dX9_night_272 : decode cX9_night 272 = .ok (.iconst 1, 1) := by decide +kernel
theorem dX9_night_273 : decode cX9_night 273 = .ok (.iload 4, 2) := by decide +kernel
theorem dX9_night_275 : decode cX9_night 275 = .ok (.ishl, 1) := by decide +kernel
theorem dX9_night_276 : decode cX9_night 276 = .ok (.ior, 1) := by decide +kernel
theorem dX9_night_277 : decode cX9_night 277 = .ok (.istore_n 2, 1) := by decide +kernel
theorem dX9_night_278 : decode cX9_night 278 = .ok (.aload_n 0, 1) := by decide +kernel
theorem dX9_night_279 : decode cX9_night 279 = .ok (.iload 4, 2) := by decide +kernel
theorem dX9_night_281 : decode cX9_night 281 = .ok (.invokevirtual 263, 3) := by decide +kernel
theorem dX9_night_284 : decode cX9_night 284 = .ok (.istore 4, 2) := by decide +kernel
theorem dX9_night_286 : decode cX9_night 286 = .ok (.goto (-142), 3) := by decide +kernel
theorem dX9_night_289 : decode cX9_night 289 = .ok (.iconst 0, 1) := by decide +kernel
theorem dX9_night_290 : decode cX9_night 290 = .ok (.istore 6, 2) := by decide +kernel
theorem dX9_night_292 : decode cX9_night 292 = .ok (.iconst 0, 1) := by decide +kernel
theorem dX9_night_293 : decode cX9_night 293 = .ok (.istore 7, 2) := by decide +kernel
theorem dX9_night_295 : decode cX9_night 295 = .ok (.iload 7, 2) := by decide +kernel
theorem dX9_night_297 : decode cX9_night 297 = .ok (.aload_n 0, 1) := by decide +kernel
theorem dX9_night_298 : decode cX9_night 298 = .ok (.getfield 122, 3) := by decide +kernel
theorem dX9_night_301 : decode cX9_night 301 = .ok (.if_icmp .ge 134, 3) := by decide +kernel
theorem dX9_night_304 : decode cX9_night 304 = .ok (.iload_n 2, 1) := by decide +kernel
theorem dX9_night_305 : decode cX9_night 305 = .ok (.iload 7, 2) := by decide +kernel
theorem dX9_night_307 : decode cX9_night 307 = .ok (.ishr, 1) := by decide +kernel
theorem dX9_night_308 : decode cX9_night 308 = .ok (.iconst 1, 1) := by decide +kernel
theorem dX9_night_309 : decode cX9_night 309 = .ok (.iand, 1) := by decide +kernel
theorem dX9_night_310 : decode cX9_night 310 = .ok (.iconst 1, 1) := by decide +kernel
theorem dX9_night_311 : decode cX9_night 311 = .ok (.if_icmp .ne 7, 3) := by decide +kernel
theorem dX9_night_314 : decode cX9_night 314 = .ok (.iconst 1, 1) := by decide +kernel
theorem dX9_night_315 : decode cX9_night 315 = .ok (.goto 4, 3) := by decide +kernel
theorem dX9_night_318 : decode cX9_night 318 = .ok (.iconst 0, 1) := by decide +kernel
theorem dX9_night_319 : decode cX9_night 319 = .ok (.istore 8, 2) := by decide +kernel
theorem dX9_night_321 : decode cX9_night 321 = .ok (.iload 6, 2) := by decide +kernel
theorem dX9_night_323 : decode cX9_night 323 = .ok (.iload 8, 2) := by decide +kernel
theorem dX9_night_325 : decode cX9_night 325 = .ok (.ifCond .eq 7, 3) := by decide +kernel
theorem dX9_night_328 : decode cX9_night 328 = .ok (.iconst 1, 1) := by decide +kernel
theorem dX9_night_329 : decode cX9_night 329 = .ok (.goto 4, 3) := by decide +kernel
theorem dX9_night_332 : decode cX9_night 332 = .ok (.iconst 0, 1) := by decide +kernel
theorem dX9_night_333 : decode cX9_night 333 = .ok (.iadd, 1) := by decide +kernel
theorem dX9_night_334 : decode cX9_night 334 = .ok (.istore 6, 2) := by decide +kernel
theorem dX9_night_336 : decode cX9_night 336 = .ok (.aload_n 0, 1) := by decide +kernel
theorem dX9_night_337 : decode cX9_night 337 = .ok (.dup, 1) := by decide +kernel
theorem dX9_night_338 : decode cX9_night 338 = .ok (.getfield 266, 3) := by decide +kernel
theorem dX9_night_341 : decode cX9_night 341 = .ok (.aload_n 0, 1) := by decide +kernel
theorem dX9_night_342 : decode cX9_night 342 = .ok (.getfield 48, 3) := by decide +kernel
theorem dX9_night_345 : decode cX9_night 345 = .ok (.iload 7, 2) := by decide +kernel
theorem dX9_night_347 : decode cX9_night 347 = .ok (.baload, 1) := by decide +kernel
theorem dX9_night_348 : decode cX9_night 348 = .ok (.ifCond .eq 18, 3) := by decide +kernel
theorem dX9_night_351 : decode cX9_night 351 = .ok (.iload 8, 2) := by decide +kernel
theorem dX9_night_353 : decode cX9_night 353 = .ok (.ifCond .ne 13, 3) := by decide +kernel
theorem dX9_night_356 : decode cX9_night 356 = .ok (.aload_n 0, 1) := by decide +kernel
theorem dX9_night_357 : decode cX9_night 357 = .ok (.getfield 45, 3) := by decide +kernel
theorem dX9_night_360 : decode cX9_night 360 = .ok (.iload 7, 2) := by decide +kernel
theorem dX9_night_362 : decode cX9_night 362 = .ok (.iaload, 1) := by decide +kernel
theorem dX9_night_363 : decode cX9_night 363 = .ok (.goto 4, 3) := by decide +kernel
theorem dX9_night_366 : decode cX9_night 366 = .ok (.iconst 0, 1) := by decide +kernel
theorem dX9_night_367 : decode cX9_night 367 = .ok (.iadd, 1) := by decide +kernel
theorem dX9_night_368 : decode cX9_night 368 = .ok (.putfield 266, 3) := by decide +kernel
theorem dX9_night_371 : decode cX9_night 371 = .ok (.aload_n 0, 1) := by decide +kernel
theorem dX9_night_372 : decode cX9_night 372 = .ok (.getfield 48, 3) := by decide +kernel
theorem dX9_night_375 : decode cX9_night 375 = .ok (.iload 7, 2) := by decide +kernel
theorem dX9_night_377 : decode cX9_night 377 = .ok (.baload, 1) := by decide +kernel
theorem dX9_night_378 : decode cX9_night 378 = .ok (.ifCond .eq 8, 3) := by decide +kernel
theorem dX9_night_381 : decode cX9_night 381 = .ok (.iload 8, 2) := by decide +kernel
theorem dX9_night_383 : decode cX9_night 383 = .ok (.ifCond .eq 13, 3) := by decide +kernel
theorem dX9_night_386 : decode cX9_night 386 = .ok (.iload_n 3, 1) := by decide +kernel
theorem dX9_night_387 : decode cX9_night 387 = .ok (.iload 7, 2) := by decide +kernel
theorem dX9_night_389 : decode cX9_night 389 = .ok (.ishr, 1) := by decide +kernel
theorem dX9_night_390 : decode cX9_night 390 = .ok (.iconst 1, 1) := by decide +kernel
theorem dX9_night_391 : decode cX9_night 391 = .ok (.iand, 1) := by decide +kernel
theorem dX9_night_392 : decode cX9_night 392 = .ok (.iconst 1, 1) := by decide +kernel
theorem dX9_night_393 : decode cX9_night 393 = .ok (.if_icmp .ne 9, 3) := by decide +kernel
theorem dX9_night_396 : decode cX9_night 396 = .ok (.aload_n 0, 1) := by decide +kernel
theorem dX9_night_397 : decode cX9_night 397 = .ok (.iload 7, 2) := by decide +kernel
theorem dX9_night_399 : decode cX9_night 399 = .ok (.invokevirtual 269, 3) := by decide +kernel
theorem dX9_night_402 : decode cX9_night 402 = .ok (.aload_n 0, 1) := by decide +kernel
theorem dX9_night_403 : decode cX9_night 403 = .ok (.getfield 48, 3) := by decide +kernel
theorem dX9_night_406 : decode cX9_night 406 = .ok (.iload 7, 2) := by decide +kernel
theorem dX9_night_408 : decode cX9_night 408 = .ok (.aload_n 0, 1) := by decide +kernel
theorem dX9_night_409 : decode cX9_night 409 = .ok (.getfield 48, 3) := by decide +kernel
theorem dX9_night_412 : decode cX9_night 412 = .ok (.iload 7, 2) := by decide +kernel
theorem dX9_night_414 : decode cX9_night 414 = .ok (.baload, 1) := by decide +kernel
theorem dX9_night_415 : decode cX9_night 415 = .ok (.ifCond .eq 12, 3) := by decide +kernel
theorem dX9_night_418 : decode cX9_night 418 = .ok (.iload 8, 2) := by decide +kernel
theorem dX9_night_420 : decode cX9_night 420 = .ok (.ifCond .ne 7, 3) := by decide +kernel
theorem dX9_night_423 : decode cX9_night 423 = .ok (.iconst 1, 1) := by decide +kernel
theorem dX9_night_424 : decode cX9_night 424 = .ok (.goto 4, 3) := by decide +kernel
theorem dX9_night_427 : decode cX9_night 427 = .ok (.iconst 0, 1) := by decide +kernel
theorem dX9_night_428 : decode cX9_night 428 = .ok (.bastore, 1) := by decide +kernel
theorem dX9_night_429 : decode cX9_night 429 = .ok (.iinc 7 1, 3) := by decide +kernel
theorem dX9_night_432 : decode cX9_night 432 = .ok (.goto (-137), 3) := by decide +kernel
theorem dX9_night_435 : decode cX9_night 435 = .ok (.aload_n 0, 1) := by decide +kernel
theorem dX9_night_436 : decode cX9_night 436 = .ok (.dup, 1) := by decide +kernel
theorem dX9_night_437 : decode cX9_night 437 = .ok (.getfield 250, 3) := by decide +kernel
theorem dX9_night_440 : decode cX9_night 440 = .ok (.iconst 1, 1) := by decide +kernel
theorem dX9_night_441 : decode cX9_night 441 = .ok (.iadd, 1) := by decide +kernel
theorem dX9_night_442 : decode cX9_night 442 = .ok (.putfield 250, 3) := by decide +kernel
theorem dX9_night_445 : decode cX9_night 445 = .ok (.iload 6, 2) := by decide +kernel
theorem dX9_night_447 : decode cX9_night 447 = .ok (.ireturn, 1) := by decide +kernel
theorem dX9_nights_0 : decode cX9_nights 0 = .ok (.aload_n 0, 1) := by decide +kernel
theorem dX9_nights_1 : decode cX9_nights 1 = .ok (.aload_n 0, 1) := by decide +kernel
theorem dX9_nights_2 : decode cX9_nights 2 = .ok (.getfield 250, 3) := by decide +kernel
theorem dX9_nights_5 : decode cX9_nights 5 = .ok (.invokevirtual 272, 3) := by decide +kernel
theorem dX9_nights_8 : decode cX9_nights 8 = .ok (.ireturn, 1) := by decide +kernel
theorem dX9_paid_0 : decode cX9_paid 0 = .ok (.aload_n 0, 1) := by decide +kernel
theorem dX9_paid_1 : decode cX9_paid 1 = .ok (.aload_n 0, 1) := by decide +kernel
theorem dX9_paid_2 : decode cX9_paid 2 = .ok (.getfield 260, 3) := by decide +kernel
theorem dX9_paid_5 : decode cX9_paid 5 = .ok (.invokevirtual 272, 3) := by decide +kernel
theorem dX9_paid_8 : decode cX9_paid 8 = .ok (.ireturn, 1) := by decide +kernel
theorem dX9_left_0 : decode cX9_left 0 = .ok (.aload_n 0, 1) := by decide +kernel
theorem dX9_left_1 : decode cX9_left 1 = .ok (.aload_n 0, 1) := by decide +kernel
theorem dX9_left_2 : decode cX9_left 2 = .ok (.getfield 257, 3) := by decide +kernel
theorem dX9_left_5 : decode cX9_left 5 = .ok (.invokevirtual 272, 3) := by decide +kernel
theorem dX9_left_8 : decode cX9_left 8 = .ok (.ireturn, 1) := by decide +kernel
theorem dX9_owed_0 : decode cX9_owed 0 = .ok (.aload_n 0, 1) := by decide +kernel
theorem dX9_owed_1 : decode cX9_owed 1 = .ok (.aload_n 0, 1) := by decide +kernel
theorem dX9_owed_2 : decode cX9_owed 2 = .ok (.getfield 266, 3) := by decide +kernel
theorem dX9_owed_5 : decode cX9_owed 5 = .ok (.invokevirtual 272, 3) := by decide +kernel
theorem dX9_owed_8 : decode cX9_owed 8 = .ok (.ireturn, 1) := by decide +kernel
theorem dX9_kept_0 : decode cX9_kept 0 = .ok (.aload_n 0, 1) := by decide +kernel
theorem dX9_kept_1 : decode cX9_kept 1 = .ok (.aload_n 0, 1) := by decide +kernel
theorem dX9_kept_2 : decode cX9_kept 2 = .ok (.iload_n 1, 1) := by decide +kernel
theorem dX9_kept_3 : decode cX9_kept 3 = .ok (.invokevirtual 125, 3) := by decide +kernel
theorem dX9_kept_6 : decode cX9_kept 6 = .ok (.invokevirtual 145, 3) := by decide +kernel
theorem dX9_kept_9 : decode cX9_kept 9 = .ok (.ifCond .eq 12, 3) := by decide +kernel
theorem dX9_kept_12 : decode cX9_kept 12 = .ok (.aload_n 0, 1) := by decide +kernel
theorem dX9_kept_13 : decode cX9_kept 13 = .ok (.getfield 84, 3) := by decide +kernel
theorem dX9_kept_16 : decode cX9_kept 16 = .ok (.iload_n 1, 1) := by decide +kernel
theorem dX9_kept_17 : decode cX9_kept 17 = .ok (.iaload, 1) := by decide +kernel
theorem dX9_kept_18 : decode cX9_kept 18 = .ok (.goto 4, 3) := by decide +kernel
theorem dX9_kept_21 : decode cX9_kept 21 = .ok (.iconst 0, 1) := by decide +kernel
theorem dX9_kept_22 : decode cX9_kept 22 = .ok (.ireturn, 1) := by decide +kernel
theorem dX9_keptSum_0 : decode cX9_keptSum 0 = .ok (.aload_n 0, 1) := by decide +kernel
theorem dX9_keptSum_1 : decode cX9_keptSum 1 = .ok (.aload_n 0, 1) := by decide +kernel
theorem dX9_keptSum_2 : decode cX9_keptSum 2 = .ok (.iload_n 1, 1) := by decide +kernel
theorem dX9_keptSum_3 : decode cX9_keptSum 3 = .ok (.invokevirtual 125, 3) := by decide +kernel
theorem dX9_keptSum_6 : decode cX9_keptSum 6 = .ok (.invokevirtual 145, 3) := by decide +kernel
theorem dX9_keptSum_9 : decode cX9_keptSum 9 = .ok (.ifCond .eq 12, 3) := by decide +kernel
theorem dX9_keptSum_12 : decode cX9_keptSum 12 = .ok (.aload_n 0, 1) := by decide +kernel
theorem dX9_keptSum_13 : decode cX9_keptSum 13 = .ok (.getfield 87, 3) := by decide +kernel
theorem dX9_keptSum_16 : decode cX9_keptSum 16 = .ok (.iload_n 1, 1) := by decide +kernel
theorem dX9_keptSum_17 : decode cX9_keptSum 17 = .ok (.iaload, 1) := by decide +kernel
theorem dX9_keptSum_18 : decode cX9_keptSum 18 = .ok (.goto 4, 3) := by decide +kernel
theorem dX9_keptSum_21 : decode cX9_keptSum 21 = .ok (.iconst 0, 1) := by decide +kernel
theorem dX9_keptSum_22 : decode cX9_keptSum 22 = .ok (.ireturn, 1) := by decide +kernel
theorem dX9_keptIn_0 : decode cX9_keptIn 0 = .ok (.aload_n 0, 1) := by decide +kernel
theorem dX9_keptIn_1 : decode cX9_keptIn 1 = .ok (.aload_n 0, 1) := by decide +kernel
theorem dX9_keptIn_2 : decode cX9_keptIn 2 = .ok (.iload_n 1, 1) := by decide +kernel
theorem dX9_keptIn_3 : decode cX9_keptIn 3 = .ok (.invokevirtual 125, 3) := by decide +kernel
theorem dX9_keptIn_6 : decode cX9_keptIn 6 = .ok (.invokevirtual 145, 3) := by decide +kernel
theorem dX9_keptIn_9 : decode cX9_keptIn 9 = .ok (.ifCond .eq 12, 3) := by decide +kernel
theorem dX9_keptIn_12 : decode cX9_keptIn 12 = .ok (.aload_n 0, 1) := by decide +kernel
theorem dX9_keptIn_13 : decode cX9_keptIn 13 = .ok (.getfield 90, 3) := by decide +kernel
theorem dX9_keptIn_16 : decode cX9_keptIn 16 = .ok (.iload_n 1, 1) := by decide +kernel
theorem dX9_keptIn_17 : decode cX9_keptIn 17 = .ok (.iaload, 1) := by decide +kernel
theorem dX9_keptIn_18 : decode cX9_keptIn 18 = .ok (.goto 4, 3) := by decide +kernel
theorem dX9_keptIn_21 : decode cX9_keptIn 21 = .ok (.iconst 0, 1) := by decide +kernel
theorem dX9_keptIn_22 : decode cX9_keptIn 22 = .ok (.ireturn, 1) := by decide +kernel
