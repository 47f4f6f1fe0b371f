theorem d_Mo_init_0 : decode b_Mo_init 0 = .ok (.aload_n 0, 1) := by decide +kernel
theorem d_Mo_init_1 : decode b_Mo_init 1 = .ok (.invokespecial 1, 3) := by decide +kernel
theorem d_Mo_init_4 : decode b_Mo_init 4 = .ok (.aload_n 0, 1) := by decide +kernel
theorem d_Mo_init_5 : decode b_Mo_init 5 = .ok (.bipush 10, 2) := by decide +kernel
theorem d_Mo_init_7 : decode b_Mo_init 7 = .ok (.newarray .int, 2) := by decide +kernel
theorem d_Mo_init_9 : decode b_Mo_init 9 = .ok (.putfield 7, 3) := by decide +kernel
theorem d_Mo_init_12 : decode b_Mo_init 12 = .ok (.aload_n 0, 1) := by decide +kernel
theorem d_Mo_init_13 : decode b_Mo_init 13 = .ok (.bipush 10, 2) := by decide +kernel
theorem d_Mo_init_15 : decode b_Mo_init 15 = .ok (.newarray .int, 2) := by decide +kernel
theorem d_Mo_init_17 : decode b_Mo_init 17 = .ok (.putfield 13, 3) := by decide +kernel
theorem d_Mo_init_20 : decode b_Mo_init 20 = .ok (.aload_n 0, 1) := by decide +kernel
theorem d_Mo_init_21 : decode b_Mo_init 21 = .ok (.bipush 10, 2) := by decide +kernel
theorem d_Mo_init_23 : decode b_Mo_init 23 = .ok (.newarray .long, 2) := by decide +kernel
theorem d_Mo_init_25 : decode b_Mo_init 25 = .ok (.putfield 16, 3) := by decide +kernel
theorem d_Mo_init_28 : decode b_Mo_init 28 = .ok (.aload_n 0, 1) := by decide +kernel
theorem d_Mo_init_29 : decode b_Mo_init 29 = .ok (.bipush 10, 2) := by decide +kernel
theorem d_Mo_init_31 : decode b_Mo_init 31 = .ok (.newarray .long, 2) := by decide +kernel
theorem d_Mo_init_33 : decode b_Mo_init 33 = .ok (.putfield 20, 3) := by decide +kernel
theorem d_Mo_init_36 : decode b_Mo_init 36 = .ok (.aload_n 0, 1) := by decide +kernel
theorem d_Mo_init_37 : decode b_Mo_init 37 = .ok (.bipush 10, 2) := by decide +kernel
theorem d_Mo_init_39 : decode b_Mo_init 39 = .ok (.newarray .int, 2) := by decide +kernel
theorem d_Mo_init_41 : decode b_Mo_init 41 = .ok (.putfield 23, 3) := by decide +kernel
theorem d_Mo_init_44 : decode b_Mo_init 44 = .ok (.aload_n 0, 1) := by decide +kernel
theorem d_Mo_init_45 : decode b_Mo_init 45 = .ok (.bipush 10, 2) := by decide +kernel
theorem d_Mo_init_47 : decode b_Mo_init 47 = .ok (.newarray .boolean, 2) := by decide +kernel
theorem d_Mo_init_49 : decode b_Mo_init 49 = .ok (.putfield 26, 3) := by decide +kernel
theorem d_Mo_init_52 : decode b_Mo_init 52 = .ok (.aload_n 0, 1) := by decide +kernel
theorem d_Mo_init_53 : decode b_Mo_init 53 = .ok (.bipush 10, 2) := by decide +kernel
theorem d_Mo_init_55 : decode b_Mo_init 55 = .ok (.newarray .int, 2) := by decide +kernel
theorem d_Mo_init_57 : decode b_Mo_init 57 = .ok (.putfield 30, 3) := by decide +kernel
theorem d_Mo_init_60 : decode b_Mo_init 60 = .ok (.aload_n 0, 1) := by decide +kernel
theorem d_Mo_init_61 : decode b_Mo_init 61 = .ok (.bipush 15, 2) := by decide +kernel
theorem d_Mo_init_63 : decode b_Mo_init 63 = .ok (.newarray .int, 2) := by decide +kernel
theorem d_Mo_init_65 : decode b_Mo_init 65 = .ok (.putfield 33, 3) := by decide +kernel
theorem d_Mo_init_68 : decode b_Mo_init 68 = .ok (.aload_n 0, 1) := by decide +kernel
theorem d_Mo_init_69 : decode b_Mo_init 69 = .ok (.bipush 15, 2) := by decide +kernel
theorem d_Mo_init_71 : decode b_Mo_init 71 = .ok (.newarray .int, 2) := by decide +kernel
theorem d_Mo_init_73 : decode b_Mo_init 73 = .ok (.putfield 36, 3) := by decide +kernel
theorem d_Mo_init_76 : decode b_Mo_init 76 = .ok (.aload_n 0, 1) := by decide +kernel
theorem d_Mo_init_77 : decode b_Mo_init 77 = .ok (.bipush 15, 2) := by decide +kernel
theorem d_Mo_init_79 : decode b_Mo_init 79 = .ok (.newarray .int, 2) := by decide +kernel
theorem d_Mo_init_81 : decode b_Mo_init 81 = .ok (.putfield 39, 3) := by decide +kernel
theorem d_Mo_init_84 : decode b_Mo_init 84 = .ok (.aload_n 0, 1) := by decide +kernel
theorem d_Mo_init_85 : decode b_Mo_init 85 = .ok (.bipush 15, 2) := by decide +kernel
theorem d_Mo_init_87 : decode b_Mo_init 87 = .ok (.newarray .int, 2) := by decide +kernel
theorem d_Mo_init_89 : decode b_Mo_init 89 = .ok (.putfield 42, 3) := by decide +kernel
theorem d_Mo_init_92 : decode b_Mo_init 92 = .ok (.aload_n 0, 1) := by decide +kernel
theorem d_Mo_init_93 : decode b_Mo_init 93 = .ok (.bipush 15, 2) := by decide +kernel
theorem d_Mo_init_95 : decode b_Mo_init 95 = .ok (.newarray .int, 2) := by decide +kernel
theorem d_Mo_init_97 : decode b_Mo_init 97 = .ok (.putfield 45, 3) := by decide +kernel
theorem d_Mo_init_100 : decode b_Mo_init 100 = .ok (.aload_n 0, 1) := by decide +kernel
theorem d_Mo_init_101 : decode b_Mo_init 101 = .ok (.bipush 15, 2) := by decide +kernel
theorem d_Mo_init_103 : decode b_Mo_init 103 = .ok (.newarray .int, 2) := by decide +kernel
theorem d_Mo_init_105 : decode b_Mo_init 105 = .ok (.putfield 48, 3) := by decide +kernel
theorem d_Mo_init_108 : decode b_Mo_init 108 = .ok (.aload_n 0, 1) := by decide +kernel
theorem d_Mo_init_109 : decode b_Mo_init 109 = .ok (.bipush 15, 2) := by decide +kernel
theorem d_Mo_init_111 : decode b_Mo_init 111 = .ok (.newarray .boolean, 2) := by decide +kernel
theorem d_Mo_init_113 : decode b_Mo_init 113 = .ok (.putfield 51, 3) := by decide +kernel
theorem d_Mo_init_116 : decode b_Mo_init 116 = .ok (.aload_n 0, 1) := by decide +kernel
theorem d_Mo_init_117 : decode b_Mo_init 117 = .ok (.bipush 15, 2) := by decide +kernel
theorem d_Mo_init_119 : decode b_Mo_init 119 = .ok (.newarray .long, 2) := by decide +kernel
theorem d_Mo_init_121 : decode b_Mo_init 121 = .ok (.putfield 54, 3) := by decide +kernel
theorem d_Mo_init_124 : decode b_Mo_init 124 = .ok (.aload_n 0, 1) := by decide +kernel
theorem d_Mo_init_125 : decode b_Mo_init 125 = .ok (.bipush 15, 2) := by decide +kernel
theorem d_Mo_init_127 : decode b_Mo_init 127 = .ok (.newarray .long, 2) := by decide +kernel
theorem d_Mo_init_129 : decode b_Mo_init 129 = .ok (.putfield 57, 3) := by decide +kernel
theorem d_Mo_init_132 : decode b_Mo_init 132 = .ok (.aload_n 0, 1) := by decide +kernel
theorem d_Mo_init_133 : decode b_Mo_init 133 = .ok (.bipush 15, 2) := by decide +kernel
theorem d_Mo_init_135 : decode b_Mo_init 135 = .ok (.newarray .long, 2) := by decide +kernel
theorem d_Mo_init_137 : decode b_Mo_init 137 = .ok (.putfield 60, 3) := by decide +kernel
theorem d_Mo_init_140 : decode b_Mo_init 140 = .ok (.aload_n 0, 1) := by decide +kernel
theorem d_Mo_init_141 : decode b_Mo_init 141 = .ok (.iconst 5, 1) := by decide +kernel
theorem d_Mo_init_142 : decode b_Mo_init 142 = .ok (.newarray .int, 2) := by decide +kernel
theorem d_Mo_init_144 : decode b_Mo_init 144 = .ok (.putfield 63, 3) := by decide +kernel
theorem d_Mo_init_147 : decode b_Mo_init 147 = .ok (.aload_n 0, 1) := by decide +kernel
theorem d_Mo_init_148 : decode b_Mo_init 148 = .ok (.iconst 5, 1) := by decide +kernel
theorem d_Mo_init_149 : decode b_Mo_init 149 = .ok (.newarray .int, 2) := by decide +kernel
theorem d_Mo_init_151 : decode b_Mo_init 151 = .ok (.putfield 66, 3) := by decide +kernel
theorem d_Mo_init_154 : decode b_Mo_init 154 = .ok (.aload_n 0, 1) := by decide +kernel
theorem d_Mo_init_155 : decode b_Mo_init 155 = .ok (.iconst 5, 1) := by decide +kernel
theorem d_Mo_init_156 : decode b_Mo_init 156 = .ok (.newarray .int, 2) := by decide +kernel
theorem d_Mo_init_158 : decode b_Mo_init 158 = .ok (.putfield 69, 3) := by decide +kernel
theorem d_Mo_init_161 : decode b_Mo_init 161 = .ok (.aload_n 0, 1) := by decide +kernel
theorem d_Mo_init_162 : decode b_Mo_init 162 = .ok (.iconst 5, 1) := by decide +kernel
theorem d_Mo_init_163 : decode b_Mo_init 163 = .ok (.newarray .int, 2) := by decide +kernel
theorem d_Mo_init_165 : decode b_Mo_init 165 = .ok (.putfield 72, 3) := by decide +kernel
theorem d_Mo_init_168 : decode b_Mo_init 168 = .ok (.aload_n 0, 1) := by decide +kernel
theorem d_Mo_init_169 : decode b_Mo_init 169 = .ok (.iconst 5, 1) := by decide +kernel
theorem d_Mo_init_170 : decode b_Mo_init 170 = .ok (.newarray .int, 2) := by decide +kernel
theorem d_Mo_init_172 : decode b_Mo_init 172 = .ok (.putfield 75, 3) := by decide +kernel
theorem d_Mo_init_175 : decode b_Mo_init 175 = .ok (.aload_n 0, 1) := by decide +kernel
theorem d_Mo_init_176 : decode b_Mo_init 176 = .ok (.bipush 9, 2) := by decide +kernel
theorem d_Mo_init_178 : decode b_Mo_init 178 = .ok (.newarray .int, 2) := by decide +kernel
theorem d_Mo_init_180 : decode b_Mo_init 180 = .ok (.putfield 78, 3) := by decide +kernel
theorem d_Mo_init_183 : decode b_Mo_init 183 = .ok (.aload_n 0, 1) := by decide +kernel
theorem d_Mo_init_184 : decode b_Mo_init 184 = .ok (.bipush 9, 2) := by decide +kernel
theorem d_Mo_init_186 : decode b_Mo_init 186 = .ok (.newarray .int, 2) := by decide +kernel
theorem d_Mo_init_188 : decode b_Mo_init 188 = .ok (.putfield 81, 3) := by decide +kernel
theorem d_Mo_init_191 : decode b_Mo_init 191 = .ok (.aload_n 0, 1) := by decide +kernel
theorem d_Mo_init_192 : decode b_Mo_init 192 = .ok (.bipush 9, 2) := by decide +kernel
theorem d_Mo_init_194 : decode b_Mo_init 194 = .ok (.newarray .int, 2) := by decide +kernel
theorem d_Mo_init_196 : decode b_Mo_init 196 = .ok (.putfield 84, 3) := by decide +kernel
theorem d_Mo_init_199 : decode b_Mo_init 199 = .ok (.aload_n 0, 1) := by decide +kernel
theorem d_Mo_init_200 : decode b_Mo_init 200 = .ok (.bipush 9, 2) := by decide +kernel
theorem d_Mo_init_202 : decode b_Mo_init 202 = .ok (.newarray .int, 2) := by decide +kernel
theorem d_Mo_init_204 : decode b_Mo_init 204 = .ok (.putfield 87, 3) := by decide +kernel
theorem d_Mo_init_207 : decode b_Mo_init 207 = .ok (.aload_n 0, 1) := by decide +kernel
theorem d_Mo_init_208 : decode b_Mo_init 208 = .ok (.bipush 9, 2) := by decide +kernel
theorem d_Mo_init_210 : decode b_Mo_init 210 = .ok (.newarray .int, 2) := by decide +kernel
theorem d_Mo_init_212 : decode b_Mo_init 212 = .ok (.putfield 90, 3) := by decide +kernel
theorem d_Mo_init_215 : decode b_Mo_init 215 = .ok (.aload_n 0, 1) := by decide +kernel
theorem d_Mo_init_216 : decode b_Mo_init 216 = .ok (.bipush 9, 2) := by decide +kernel
theorem d_Mo_init_218 : decode b_Mo_init 218 = .ok (.newarray .long, 2) := by decide +kernel
theorem d_Mo_init_220 : decode b_Mo_init 220 = .ok (.putfield 93, 3) := by decide +kernel
theorem d_Mo_init_223 : decode b_Mo_init 223 = .ok (.aload_n 0, 1) := by decide +kernel
theorem d_Mo_init_224 : decode b_Mo_init 224 = .ok (.bipush 9, 2) := by decide +kernel
theorem d_Mo_init_226 : decode b_Mo_init 226 = .ok (.newarray .int, 2) := by decide +kernel
theorem d_Mo_init_228 : decode b_Mo_init 228 = .ok (.putfield 96, 3) := by decide +kernel
theorem d_Mo_init_231 : decode b_Mo_init 231 = .ok (.aload_n 0, 1) := by decide +kernel
theorem d_Mo_init_232 : decode b_Mo_init 232 = .ok (.bipush 9, 2) := by decide +kernel
theorem d_Mo_init_234 : decode b_Mo_init 234 = .ok (.newarray .long, 2) := by decide +kernel
theorem d_Mo_init_236 : decode b_Mo_init 236 = .ok (.putfield 99, 3) := by decide +kernel
theorem d_Mo_init_239 : decode b_Mo_init 239 = .ok (.aload_n 0, 1) := by decide +kernel
theorem d_Mo_init_240 : decode b_Mo_init 240 = .ok (.bipush 9, 2) := by decide +kernel
theorem d_Mo_init_242 : decode b_Mo_init 242 = .ok (.newarray .int, 2) := by decide +kernel
theorem d_Mo_init_244 : decode b_Mo_init 244 = .ok (.putfield 102, 3) := by decide +kernel
theorem d_Mo_init_247 : decode b_Mo_init 247 = .ok (.aload_n 0, 1) := by decide +kernel
theorem d_Mo_init_248 : decode b_Mo_init 248 = .ok (.bipush 9, 2) := by decide +kernel
theorem d_Mo_init_250 : decode b_Mo_init 250 = .ok (.newarray .int, 2) := by decide +kernel
theorem d_Mo_init_252 : decode b_Mo_init 252 = .ok (.putfield 105, 3) := by decide +kernel
theorem d_Mo_init_255 : decode b_Mo_init 255 = .ok (.aload_n 0, 1) := by decide +kernel
theorem d_Mo_init_256 : decode b_Mo_init 256 = .ok (.bipush 9, 2) := by decide +kernel
theorem d_Mo_init_258 : decode b_Mo_init 258 = .ok (.newarray .int, 2) := by decide +kernel
theorem d_Mo_init_260 : decode b_Mo_init 260 = .ok (.putfield 108, 3) := by decide +kernel
theorem d_Mo_init_263 : decode b_Mo_init 263 = .ok (.aload_n 0, 1) := by decide +kernel
theorem d_Mo_init_264 : decode b_Mo_init 264 = .ok (.sipush 180, 3) := by decide +kernel
theorem d_Mo_init_267 : decode b_Mo_init 267 = .ok (.newarray .int, 2) := by decide +kernel
theorem d_Mo_init_269 : decode b_Mo_init 269 = .ok (.putfield 111, 3) := by decide +kernel
theorem d_Mo_init_272 : decode b_Mo_init 272 = .ok (.aload_n 0, 1) := by decide +kernel
theorem d_Mo_init_273 : decode b_Mo_init 273 = .ok (.sipush 180, 3) := by decide +kernel
theorem d_Mo_init_276 : decode b_Mo_init 276 = .ok (.newarray .int, 2) := by decide +kernel
theorem d_Mo_init_278 : decode b_Mo_init 278 = .ok (.putfield 114, 3) := by decide +kernel
theorem d_Mo_init_281 : decode b_Mo_init 281 = .ok (.return_, 1) := by decide +kernel
theorem d_Mo_thrown_0 : decode b_Mo_thrown 0 = .ok (.aload_n 0, 1) := by decide +kernel
theorem d_Mo_thrown_1 : decode b_Mo_thrown 1 = .ok (.getfield 117, 3) := by decide +kernel
theorem d_Mo_thrown_4 : decode b_Mo_thrown 4 = .ok (.ireturn, 1) := by decide +kernel
theorem d_Mo_room_0 : decode b_Mo_room 0 = .ok (.aload_n 0, 1) := by decide +kernel
theorem d_Mo_room_1 : decode b_Mo_room 1 = .ok (.iload_n 1, 1) := by decide +kernel
theorem d_Mo_room_2 : decode b_Mo_room 2 = .ok (.iconst 1, 1) := by decide +kernel
theorem d_Mo_room_3 : decode b_Mo_room 3 = .ok (.sipush 10000, 3) := by decide +kernel
theorem d_Mo_room_6 : decode b_Mo_room 6 = .ok (.invokestatic 124, 3) := by decide +kernel
theorem d_Mo_room_9 : decode b_Mo_room 9 = .ok (.ifCond .eq 13, 3) := by decide +kernel
theorem d_Mo_room_12 : decode b_Mo_room 12 = .ok (.iload_n 2, 1) := by decide +kernel
theorem d_Mo_room_13 : decode b_Mo_room 13 = .ok (.iconst 1, 1) := by decide +kernel
theorem d_Mo_room_14 : decode b_Mo_room 14 = .ok (.bipush 100, 2) := by decide +kernel
theorem d_Mo_room_16 : decode b_Mo_room 16 = .ok (.invokestatic 124, 3) := by decide +kernel
theorem d_Mo_room_19 : decode b_Mo_room 19 = .ok (.ifCond .ne 7, 3) := by decide +kernel
theorem d_Mo_room_22 : decode b_Mo_room 22 = .ok (.iconst 1, 1) := by decide +kernel
theorem d_Mo_room_23 : decode b_Mo_room 23 = .ok (.goto 17, 3) := by decide +kernel
theorem d_Mo_room_26 : decode b_Mo_room 26 = .ok (.aload_n 0, 1) := by decide +kernel
theorem d_Mo_room_27 : decode b_Mo_room 27 = .ok (.getfield 121, 3) := by decide +kernel
theorem d_Mo_room_30 : decode b_Mo_room 30 = .ok (.bipush 10, 2) := by decide +kernel
theorem d_Mo_room_32 : decode b_Mo_room 32 = .ok (.if_icmp .ne 7, 3) := by decide +kernel
theorem d_Mo_room_35 : decode b_Mo_room 35 = .ok (.iconst 2, 1) := by decide +kernel
theorem d_Mo_room_36 : decode b_Mo_room 36 = .ok (.goto 4, 3) := by decide +kernel
theorem d_Mo_room_39 : decode b_Mo_room 39 = .ok (.iconst 0, 1) := by decide +kernel
theorem d_Mo_room_40 : decode b_Mo_room 40 = .ok (.putfield 117, 3) := by decide +kernel
theorem d_Mo_room_43 : decode b_Mo_room 43 = .ok (.aload_n 0, 1) := by decide +kernel
theorem d_Mo_room_44 : decode b_Mo_room 44 = .ok (.getfield 117, 3) := by decide +kernel
theorem d_Mo_room_47 : decode b_Mo_room 47 = .ok (.ifCond .le 5, 3) := by decide +kernel
theorem d_Mo_room_50 : decode b_Mo_room 50 = .ok (.iconst 0, 1) := by decide +kernel
theorem d_Mo_room_51 : decode b_Mo_room 51 = .ok (.ireturn, 1) := by decide +kernel
theorem d_Mo_room_52 : decode b_Mo_room 52 = .ok (.aload_n 0, 1) := by decide +kernel
theorem d_Mo_room_53 : decode b_Mo_room 53 = .ok (.getfield 7, 3) := by decide +kernel
theorem d_Mo_room_56 : decode b_Mo_room 56 = .ok (.aload_n 0, 1) := by decide +kernel
theorem d_Mo_room_57 : decode b_Mo_room 57 = .ok (.getfield 121, 3) := by decide +kernel
theorem d_Mo_room_60 : decode b_Mo_room 60 = .ok (.iload_n 1, 1) := by decide +kernel
theorem d_Mo_room_61 : decode b_Mo_room 61 = .ok (.iastore, 1) := by decide +kernel
theorem d_Mo_room_62 : decode b_Mo_room 62 = .ok (.aload_n 0, 1) := by decide +kernel
theorem d_Mo_room_63 : decode b_Mo_room 63 = .ok (.getfield 13, 3) := by decide +kernel
theorem d_Mo_room_66 : decode b_Mo_room 66 = .ok (.aload_n 0, 1) := by decide +kernel
theorem d_Mo_room_67 : decode b_Mo_room 67 = .ok (.getfield 121, 3) := by decide +kernel
theorem d_Mo_room_70 : decode b_Mo_room 70 = .ok (.iload_n 2, 1) := by decide +kernel
theorem d_Mo_room_71 : decode b_Mo_room 71 = .ok (.iastore, 1) := by decide +kernel
theorem d_Mo_room_72 : decode b_Mo_room 72 = .ok (.aload_n 0, 1) := by decide +kernel
theorem d_Mo_room_73 : decode b_Mo_room 73 = .ok (.getfield 30, 3) := by decide +kernel
theorem d_Mo_room_76 : decode b_Mo_room 76 = .ok (.aload_n 0, 1) := by decide +kernel
theorem d_Mo_room_77 : decode b_Mo_room 77 = .ok (.getfield 121, 3) := by decide +kernel
theorem d_Mo_room_80 : decode b_Mo_room 80 = .ok (.iconst (-1), 1) := by decide +kernel
theorem d_Mo_room_81 : decode b_Mo_room 81 = .ok (.iastore, 1) := by decide +kernel
theorem d_Mo_room_82 : decode b_Mo_room 82 = .ok (.aload_n 0, 1) := by decide +kernel
theorem d_Mo_room_83 : decode b_Mo_room 83 = .ok (.dup, 1) := by decide +kernel
theorem d_Mo_room_84 : decode b_Mo_room 84 = .ok (.getfield 121, 3) := by decide +kernel
theorem d_Mo_room_87 : decode b_Mo_room 87 = .ok (.iconst 1, 1) := by decide +kernel
theorem d_Mo_room_88 : decode b_Mo_room 88 = .ok (.iadd, 1) := by decide +kernel
theorem d_Mo_room_89 : decode b_Mo_room 89 = .ok (.putfield 121, 3) := by decide +kernel
theorem d_Mo_room_92 : decode b_Mo_room 92 = .ok (.aload_n 0, 1) := by decide +kernel
theorem d_Mo_room_93 : decode b_Mo_room 93 = .ok (.getfield 121, 3) := by decide +kernel
theorem d_Mo_room_96 : decode b_Mo_room 96 = .ok (.iconst 1, 1) := by decide +kernel
theorem d_Mo_room_97 : decode b_Mo_room 97 = .ok (.isub, 1) := by decide +kernel
theorem d_Mo_room_98 : decode b_Mo_room 98 = .ok (.ireturn, 1) := by decide +kernel
theorem d_Mo_in_0 : decode b_Mo_in 0 = .ok (.iload_n 0, 1) := by decide +kernel
theorem d_Mo_in_1 : decode b_Mo_in 1 = .ok (.iload_n 1, 1) := by decide +kernel
theorem d_Mo_in_2 : decode b_Mo_in 2 = .ok (.if_icmp .lt 12, 3) := by decide +kernel
theorem d_Mo_in_5 : decode b_Mo_in 5 = .ok (.iload_n 0, 1) := by decide +kernel
theorem d_Mo_in_6 : decode b_Mo_in 6 = .ok (.iload_n 2, 1) := by decide +kernel
theorem d_Mo_in_7 : decode b_Mo_in 7 = .ok (.if_icmp .gt 7, 3) := by decide +kernel
theorem d_Mo_in_10 : decode b_Mo_in 10 = .ok (.iconst 1, 1) := by decide +kernel
theorem d_Mo_in_11 : decode b_Mo_in 11 = .ok (.goto 4, 3) := by decide +kernel
theorem d_Mo_in_14 : decode b_Mo_in 14 = .ok (.iconst 0, 1) := by decide +kernel
theorem d_Mo_in_15 : decode b_Mo_in 15 = .ok (.ireturn, 1) := by decide +kernel
theorem d_Mo_opening_0 : decode b_Mo_opening 0 = .ok (.aload_n 0, 1) := by decide +kernel
theorem d_Mo_opening_1 : decode b_Mo_opening 1 = .ok (.iload_n 1, 1) := by decide +kernel
theorem d_Mo_opening_2 : decode b_Mo_opening 2 = .ok (.invokevirtual 128, 3) := by decide +kernel
theorem d_Mo_opening_5 : decode b_Mo_opening 5 = .ok (.ifCond .eq 42, 3) := by decide +kernel
theorem d_Mo_opening_8 : decode b_Mo_opening 8 = .ok (.aload_n 0, 1) := by decide +kernel
theorem d_Mo_opening_9 : decode b_Mo_opening 9 = .ok (.iload_n 2, 1) := by decide +kernel
theorem d_Mo_opening_10 : decode b_Mo_opening 10 = .ok (.invokevirtual 132, 3) := by decide +kernel
theorem d_Mo_opening_13 : decode b_Mo_opening 13 = .ok (.ifCond .eq 34, 3) := by decide +kernel
theorem d_Mo_opening_16 : decode b_Mo_opening 16 = .ok (.iload_n 1, 1) := by decide +kernel
theorem d_Mo_opening_17 : decode b_Mo_opening 17 = .ok (.iload_n 2, 1) := by decide +kernel
theorem d_Mo_opening_18 : decode b_Mo_opening 18 = .ok (.if_icmp .eq 29, 3) := by decide +kernel
theorem d_Mo_opening_21 : decode b_Mo_opening 21 = .ok (.iload_n 3, 1) := by decide +kernel
theorem d_Mo_opening_22 : decode b_Mo_opening 22 = .ok (.iconst 1, 1) := by decide +kernel
theorem d_Mo_opening_23 : decode b_Mo_opening 23 = .ok (.bipush 50, 2) := by decide +kernel
theorem d_Mo_opening_25 : decode b_Mo_opening 25 = .ok (.invokestatic 124, 3) := by decide +kernel
theorem d_Mo_opening_28 : decode b_Mo_opening 28 = .ok (.ifCond .eq 19, 3) := by decide +kernel
theorem d_Mo_opening_31 : decode b_Mo_opening 31 = .ok (.iload 4, 2) := by decide +kernel
theorem d_Mo_opening_33 : decode b_Mo_opening 33 = .ok (.ifCond .lt 14, 3) := by decide +kernel
theorem d_Mo_opening_36 : decode b_Mo_opening 36 = .ok (.iload 4, 2) := by decide +kernel
theorem d_Mo_opening_38 : decode b_Mo_opening 38 = .ok (.iload 5, 2) := by decide +kernel
theorem d_Mo_opening_40 : decode b_Mo_opening 40 = .ok (.if_icmp .ge 7, 3) := by decide +kernel
theorem d_Mo_opening_43 : decode b_Mo_opening 43 = .ok (.iconst 1, 1) := by decide +kernel
theorem d_Mo_opening_44 : decode b_Mo_opening 44 = .ok (.goto 4, 3) := by decide +kernel
theorem d_Mo_opening_47 : decode b_Mo_opening 47 = .ok (.iconst 0, 1) := by decide +kernel
theorem d_Mo_opening_48 : decode b_Mo_opening 48 = .ok (.istore 6, 2) := by decide +kernel
theorem d_Mo_opening_50 : decode b_Mo_opening 50 = .ok (.iload 6, 2) := by decide +kernel
theorem d_Mo_opening_52 : decode b_Mo_opening 52 = .ok (.ifCond .eq 34, 3) := by decide +kernel
theorem d_Mo_opening_55 : decode b_Mo_opening 55 = .ok (.iload 5, 2) := by decide +kernel
theorem d_Mo_opening_57 : decode b_Mo_opening 57 = .ok (.aload_n 0, 1) := by decide +kernel
theorem d_Mo_opening_58 : decode b_Mo_opening 58 = .ok (.getfield 13, 3) := by decide +kernel
theorem d_Mo_opening_61 : decode b_Mo_opening 61 = .ok (.iload_n 1, 1) := by decide +kernel
theorem d_Mo_opening_62 : decode b_Mo_opening 62 = .ok (.iaload, 1) := by decide +kernel
theorem d_Mo_opening_63 : decode b_Mo_opening 63 = .ok (.if_icmp .gt 23, 3) := by decide +kernel
theorem d_Mo_opening_66 : decode b_Mo_opening 66 = .ok (.iload_n 2, 1) := by decide +kernel
theorem d_Mo_opening_67 : decode b_Mo_opening 67 = .ok (.iconst (-1), 1) := by decide +kernel
theorem d_Mo_opening_68 : decode b_Mo_opening 68 = .ok (.if_icmp .eq 14, 3) := by decide +kernel
theorem d_Mo_opening_71 : decode b_Mo_opening 71 = .ok (.iload 5, 2) := by decide +kernel
theorem d_Mo_opening_73 : decode b_Mo_opening 73 = .ok (.aload_n 0, 1) := by decide +kernel
theorem d_Mo_opening_74 : decode b_Mo_opening 74 = .ok (.getfield 13, 3) := by decide +kernel
theorem d_Mo_opening_77 : decode b_Mo_opening 77 = .ok (.iload_n 2, 1) := by decide +kernel
theorem d_Mo_opening_78 : decode b_Mo_opening 78 = .ok (.iaload, 1) := by decide +kernel
theorem d_Mo_opening_79 : decode b_Mo_opening 79 = .ok (.if_icmp .gt 7, 3) := by decide +kernel
theorem d_Mo_opening_82 : decode b_Mo_opening 82 = .ok (.iconst 1, 1) := by decide +kernel
theorem d_Mo_opening_83 : decode b_Mo_opening 83 = .ok (.goto 4, 3) := by decide +kernel
theorem d_Mo_opening_86 : decode b_Mo_opening 86 = .ok (.iconst 0, 1) := by decide +kernel
theorem d_Mo_opening_87 : decode b_Mo_opening 87 = .ok (.istore 6, 2) := by decide +kernel
theorem d_Mo_opening_89 : decode b_Mo_opening 89 = .ok (.aload_n 0, 1) := by decide +kernel
theorem d_Mo_opening_90 : decode b_Mo_opening 90 = .ok (.iload 6, 2) := by decide +kernel
theorem d_Mo_opening_92 : decode b_Mo_opening 92 = .ok (.ifCond .ne 7, 3) := by decide +kernel
theorem d_Mo_opening_95 : decode b_Mo_opening 95 = .ok (.iconst 1, 1) := by decide +kernel
theorem d_Mo_opening_96 : decode b_Mo_opening 96 = .ok (.goto 17, 3) := by decide +kernel
theorem d_Mo_opening_99 : decode b_Mo_opening 99 = .ok (.aload_n 0, 1) := by decide +kernel
theorem d_Mo_opening_100 : decode b_Mo_opening 100 = .ok (.getfield 135, 3) := by decide +kernel
theorem d_Mo_opening_103 : decode b_Mo_opening 103 = .ok (.bipush 15, 2) := by decide +kernel
theorem d_Mo_opening_105 : decode b_Mo_opening 105 = .ok (.if_icmp .ne 7, 3) := by decide +kernel
theorem d_Mo_opening_108 : decode b_Mo_opening 108 = .ok (.iconst 2, 1) := by decide +kernel
theorem d_Mo_opening_109 : decode b_Mo_opening 109 = .ok (.goto 4, 3) := by decide +kernel
theorem d_Mo_opening_112 : decode b_Mo_opening 112 = .ok (.iconst 0, 1) := by decide +kernel
theorem d_Mo_opening_113 : decode b_Mo_opening 113 = .ok (.putfield 117, 3) := by decide +kernel
theorem d_Mo_opening_116 : decode b_Mo_opening 116 = .ok (.aload_n 0, 1) := by decide +kernel
theorem d_Mo_opening_117 : decode b_Mo_opening 117 = .ok (.getfield 117, 3) := by decide +kernel
theorem d_Mo_opening_120 : decode b_Mo_opening 120 = .ok (.ifCond .le 5, 3) := by decide +kernel
theorem d_Mo_opening_123 : decode b_Mo_opening 123 = .ok (.iconst 0, 1) := by decide +kernel
theorem d_Mo_opening_124 : decode b_Mo_opening 124 = .ok (.ireturn, 1) := by decide +kernel
theorem d_Mo_opening_125 : decode b_Mo_opening 125 = .ok (.aload_n 0, 1) := by decide +kernel
theorem d_Mo_opening_126 : decode b_Mo_opening 126 = .ok (.getfield 33, 3) := by decide +kernel
theorem d_Mo_opening_129 : decode b_Mo_opening 129 = .ok (.aload_n 0, 1) := by decide +kernel
theorem d_Mo_opening_130 : decode b_Mo_opening 130 = .ok (.getfield 135, 3) := by decide +kernel
theorem d_Mo_opening_133 : decode b_Mo_opening 133 = .ok (.iload_n 1, 1) := by decide +kernel
theorem d_Mo_opening_134 : decode b_Mo_opening 134 = .ok (.iastore, 1) := by decide +kernel
theorem d_Mo_opening_135 : decode b_Mo_opening 135 = .ok (.aload_n 0, 1) := by decide +kernel
theorem d_Mo_opening_136 : decode b_Mo_opening 136 = .ok (.getfield 36, 3) := by decide +kernel
theorem d_Mo_opening_139 : decode b_Mo_opening 139 = .ok (.aload_n 0, 1) := by decide +kernel
theorem d_Mo_opening_140 : decode b_Mo_opening 140 = .ok (.getfield 135, 3) := by decide +kernel
theorem d_Mo_opening_143 : decode b_Mo_opening 143 = .ok (.iload_n 2, 1) := by decide +kernel
theorem d_Mo_opening_144 : decode b_Mo_opening 144 = .ok (.iastore, 1) := by decide +kernel
theorem d_Mo_opening_145 : decode b_Mo_opening 145 = .ok (.aload_n 0, 1) := by decide +kernel
theorem d_Mo_opening_146 : decode b_Mo_opening 146 = .ok (.getfield 39, 3) := by decide +kernel
theorem d_Mo_opening_149 : decode b_Mo_opening 149 = .ok (.aload_n 0, 1) := by decide +kernel
theorem d_Mo_opening_150 : decode b_Mo_opening 150 = .ok (.getfield 135, 3) := by decide +kernel
theorem d_Mo_opening_153 : decode b_Mo_opening 153 = .ok (.iload_n 3, 1) := by decide +kernel
theorem d_Mo_opening_154 : decode b_Mo_opening 154 = .ok (.iastore, 1) := by decide +kernel
theorem d_Mo_opening_155 : decode b_Mo_opening 155 = .ok (.aload_n 0, 1) := by decide +kernel
theorem d_Mo_opening_156 : decode b_Mo_opening 156 = .ok (.getfield 42, 3) := by decide +kernel
theorem d_Mo_opening_159 : decode b_Mo_opening 159 = .ok (.aload_n 0, 1) := by decide +kernel
theorem d_Mo_opening_160 : decode b_Mo_opening 160 = .ok (.getfield 135, 3) := by decide +kernel
theorem d_Mo_opening_163 : decode b_Mo_opening 163 = .ok (.iload 4, 2) := by decide +kernel
theorem d_Mo_opening_165 : decode b_Mo_opening 165 = .ok (.iastore, 1) := by decide +kernel
theorem d_Mo_opening_166 : decode b_Mo_opening 166 = .ok (.aload_n 0, 1) := by decide +kernel
theorem d_Mo_opening_167 : decode b_Mo_opening 167 = .ok (.getfield 45, 3) := by decide +kernel
theorem d_Mo_opening_170 : decode b_Mo_opening 170 = .ok (.aload_n 0, 1) := by decide +kernel
theorem d_Mo_opening_171 : decode b_Mo_opening 171 = .ok (.getfield 135, 3) := by decide +kernel
theorem d_Mo_opening_174 : decode b_Mo_opening 174 = .ok (.iload 5, 2) := by decide +kernel
theorem d_Mo_opening_176 : decode b_Mo_opening 176 = .ok (.iastore, 1) := by decide +kernel
theorem d_Mo_opening_177 : decode b_Mo_opening 177 = .ok (.aload_n 0, 1) := by decide +kernel
theorem d_Mo_opening_178 : decode b_Mo_opening 178 = .ok (.getfield 51, 3) := by decide +kernel
theorem d_Mo_opening_181 : decode b_Mo_opening 181 = .ok (.aload_n 0, 1) := by decide +kernel
theorem d_Mo_opening_182 : decode b_Mo_opening 182 = .ok (.getfield 135, 3) := by decide +kernel
theorem d_Mo_opening_185 : decode b_Mo_opening 185 = .ok (.iconst 1, 1) := by decide +kernel
theorem d_Mo_opening_186 : decode b_Mo_opening 186 = .ok (.bastore, 1) := by decide +kernel
theorem d_Mo_opening_187 : decode b_Mo_opening 187 = .ok (.aload_n 0, 1) := by decide +kernel
theorem d_Mo_opening_188 : decode b_Mo_opening 188 = .ok (.dup, 1) := by decide +kernel
theorem d_Mo_opening_189 : decode b_Mo_opening 189 = .ok (.getfield 135, 3) := by decide +kernel
theorem d_Mo_opening_192 : decode b_Mo_opening 192 = .ok (.iconst 1, 1) := by decide +kernel
theorem d_Mo_opening_193 : decode b_Mo_opening 193 = .ok (.iadd, 1) := by decide +kernel
theorem d_Mo_opening_194 : decode b_Mo_opening 194 = .ok (.putfield 135, 3) := by decide +kernel
theorem d_Mo_opening_197 : decode b_Mo_opening 197 = .ok (.aload_n 0, 1) := by decide +kernel
theorem d_Mo_opening_198 : decode b_Mo_opening 198 = .ok (.getfield 135, 3) := by decide +kernel
theorem d_Mo_opening_201 : decode b_Mo_opening 201 = .ok (.iconst 1, 1) := by decide +kernel
theorem d_Mo_opening_202 : decode b_Mo_opening 202 = .ok (.isub, 1) := by decide +kernel
theorem d_Mo_opening_203 : decode b_Mo_opening 203 = .ok (.ireturn, 1) := by decide +kernel
theorem d_Mo_isRoom_0 : decode b_Mo_isRoom 0 = .ok (.iload_n 1, 1) := by decide +kernel
theorem d_Mo_isRoom_1 : decode b_Mo_isRoom 1 = .ok (.iconst 0, 1) := by decide +kernel
theorem d_Mo_isRoom_2 : decode b_Mo_isRoom 2 = .ok (.aload_n 0, 1) := by decide +kernel
theorem d_Mo_isRoom_3 : decode b_Mo_isRoom 3 = .ok (.getfield 121, 3) := by decide +kernel
theorem d_Mo_isRoom_6 : decode b_Mo_isRoom 6 = .ok (.iconst 1, 1) := by decide +kernel
theorem d_Mo_isRoom_7 : decode b_Mo_isRoom 7 = .ok (.isub, 1) := by decide +kernel
theorem d_Mo_isRoom_8 : decode b_Mo_isRoom 8 = .ok (.invokestatic 124, 3) := by decide +kernel
theorem d_Mo_isRoom_11 : decode b_Mo_isRoom 11 = .ok (.ireturn, 1) := by decide +kernel
theorem d_Mo_isRoomOrOut_0 : decode b_Mo_isRoomOrOut 0 = .ok (.iload_n 1, 1) := by decide +kernel
theorem d_Mo_isRoomOrOut_1 : decode b_Mo_isRoomOrOut 1 = .ok (.iconst (-1), 1) := by decide +kernel
theorem d_Mo_isRoomOrOut_2 : decode b_Mo_isRoomOrOut 2 = .ok (.if_icmp .eq 11, 3) := by decide +kernel
theorem d_Mo_isRoomOrOut_5 : decode b_Mo_isRoomOrOut 5 = .ok (.aload_n 0, 1) := by decide +kernel
theorem d_Mo_isRoomOrOut_6 : decode b_Mo_isRoomOrOut 6 = .ok (.iload_n 1, 1) := by decide +kernel
theorem d_Mo_isRoomOrOut_7 : decode b_Mo_isRoomOrOut 7 = .ok (.invokevirtual 128, 3) := by decide +kernel
theorem d_Mo_isRoomOrOut_10 : decode b_Mo_isRoomOrOut 10 = .ok (.ifCond .eq 7, 3) := by decide +kernel
theorem d_Mo_isRoomOrOut_13 : decode b_Mo_isRoomOrOut 13 = .ok (.iconst 1, 1) := by decide +kernel
theorem d_Mo_isRoomOrOut_14 : decode b_Mo_isRoomOrOut 14 = .ok (.goto 4, 3) := by decide +kernel
theorem d_Mo_isRoomOrOut_17 : decode b_Mo_isRoomOrOut 17 = .ok (.iconst 0, 1) := by decide +kernel
theorem d_Mo_isRoomOrOut_18 : decode b_Mo_isRoomOrOut 18 = .ok (.ireturn, 1) := by decide +kernel
theorem d_Mo_glass_0 : decode b_Mo_glass 0 = .ok (.aload_n 0, 1) := by decide +kernel
theorem d_Mo_glass_1 : decode b_Mo_glass 1 = .ok (.iload_n 1, 1) := by decide +kernel
theorem d_Mo_glass_2 : decode b_Mo_glass 2 = .ok (.iconst 0, 1) := by decide +kernel
theorem d_Mo_glass_3 : decode b_Mo_glass 3 = .ok (.aload_n 0, 1) := by decide +kernel
theorem d_Mo_glass_4 : decode b_Mo_glass 4 = .ok (.getfield 135, 3) := by decide +kernel
theorem d_Mo_glass_7 : decode b_Mo_glass 7 = .ok (.iconst 1, 1) := by decide +kernel
theorem d_Mo_glass_8 : decode b_Mo_glass 8 = .ok (.isub, 1) := by decide +kernel
theorem d_Mo_glass_9 : decode b_Mo_glass 9 = .ok (.invokestatic 124, 3) := by decide +kernel
theorem d_Mo_glass_12 : decode b_Mo_glass 12 = .ok (.ifCond .eq 14, 3) := by decide +kernel
theorem d_Mo_glass_15 : decode b_Mo_glass 15 = .ok (.iload_n 2, 1) := by decide +kernel
theorem d_Mo_glass_16 : decode b_Mo_glass 16 = .ok (.iconst 1, 1) := by decide +kernel
theorem d_Mo_glass_17 : decode b_Mo_glass 17 = .ok (.sipush 1000, 3) := by decide +kernel
theorem d_Mo_glass_20 : decode b_Mo_glass 20 = .ok (.invokestatic 124, 3) := by decide +kernel
theorem d_Mo_glass_23 : decode b_Mo_glass 23 = .ok (.ifCond .ne 7, 3) := by decide +kernel
theorem d_Mo_glass_26 : decode b_Mo_glass 26 = .ok (.iconst 1, 1) := by decide +kernel
theorem d_Mo_glass_27 : decode b_Mo_glass 27 = .ok (.goto 17, 3) := by decide +kernel
theorem d_Mo_glass_30 : decode b_Mo_glass 30 = .ok (.aload_n 0, 1) := by decide +kernel
theorem d_Mo_glass_31 : decode b_Mo_glass 31 = .ok (.getfield 48, 3) := by decide +kernel
theorem d_Mo_glass_34 : decode b_Mo_glass 34 = .ok (.iload_n 1, 1) := by decide +kernel
theorem d_Mo_glass_35 : decode b_Mo_glass 35 = .ok (.iaload, 1) := by decide +kernel
theorem d_Mo_glass_36 : decode b_Mo_glass 36 = .ok (.ifCond .le 7, 3) := by decide +kernel
theorem d_Mo_glass_39 : decode b_Mo_glass 39 = .ok (.iconst 2, 1) := by decide +kernel
theorem d_Mo_glass_40 : decode b_Mo_glass 40 = .ok (.goto 4, 3) := by decide +kernel
theorem d_Mo_glass_43 : decode b_Mo_glass 43 = .ok (.iconst 0, 1) := by decide +kernel
theorem d_Mo_glass_44 : decode b_Mo_glass 44 = .ok (.putfield 117, 3) := by decide +kernel
theorem d_Mo_glass_47 : decode b_Mo_glass 47 = .ok (.aload_n 0, 1) := by decide +kernel
theorem d_Mo_glass_48 : decode b_Mo_glass 48 = .ok (.getfield 117, 3) := by decide +kernel
theorem d_Mo_glass_51 : decode b_Mo_glass 51 = .ok (.ifCond .ne 17, 3) := by decide +kernel
theorem d_Mo_glass_54 : decode b_Mo_glass 54 = .ok (.aload_n 0, 1) := by decide +kernel
theorem d_Mo_glass_55 : decode b_Mo_glass 55 = .ok (.getfield 48, 3) := by decide +kernel
theorem d_Mo_glass_58 : decode b_Mo_glass 58 = .ok (.iload_n 1, 1) := by decide +kernel
theorem d_Mo_glass_59 : decode b_Mo_glass 59 = .ok (.iload_n 2, 1) := by decide +kernel
theorem d_Mo_glass_60 : decode b_Mo_glass 60 = .ok (.iastore, 1) := by decide +kernel
theorem d_Mo_glass_61 : decode b_Mo_glass 61 = .ok (.aload_n 0, 1) := by decide +kernel
theorem d_Mo_glass_62 : decode b_Mo_glass 62 = .ok (.getfield 51, 3) := by decide +kernel
theorem d_Mo_glass_65 : decode b_Mo_glass 65 = .ok (.iload_n 1, 1) := by decide +kernel
theorem d_Mo_glass_66 : decode b_Mo_glass 66 = .ok (.iconst 0, 1) := by decide +kernel
theorem d_Mo_glass_67 : decode b_Mo_glass 67 = .ok (.bastore, 1) := by decide +kernel
theorem d_Mo_glass_68 : decode b_Mo_glass 68 = .ok (.return_, 1) := by decide +kernel
theorem d_Mo_fire_0 : decode b_Mo_fire 0 = .ok (.aload_n 0, 1) := by decide +kernel
theorem d_Mo_fire_1 : decode b_Mo_fire 1 = .ok (.iload_n 1, 1) := by decide +kernel
theorem d_Mo_fire_2 : decode b_Mo_fire 2 = .ok (.invokevirtual 128, 3) := by decide +kernel
theorem d_Mo_fire_5 : decode b_Mo_fire 5 = .ok (.ifCond .eq 54, 3) := by decide +kernel
theorem d_Mo_fire_8 : decode b_Mo_fire 8 = .ok (.iload_n 2, 1) := by decide +kernel
theorem d_Mo_fire_9 : decode b_Mo_fire 9 = .ok (.aload_n 0, 1) := by decide +kernel
theorem d_Mo_fire_10 : decode b_Mo_fire 10 = .ok (.getfield 138, 3) := by decide +kernel
theorem d_Mo_fire_13 : decode b_Mo_fire 13 = .ok (.ldc 141, 2) := by decide +kernel
theorem d_Mo_fire_15 : decode b_Mo_fire 15 = .ok (.invokestatic 124, 3) := by decide +kernel
theorem d_Mo_fire_18 : decode b_Mo_fire 18 = .ok (.ifCond .eq 41, 3) := by decide +kernel
theorem d_Mo_fire_21 : decode b_Mo_fire 21 = .ok (.iload_n 3, 1) := by decide +kernel
theorem d_Mo_fire_22 : decode b_Mo_fire 22 = .ok (.iconst 1, 1) := by decide +kernel
theorem d_Mo_fire_23 : decode b_Mo_fire 23 = .ok (.sipush 1000, 3) := by decide +kernel
theorem d_Mo_fire_26 : decode b_Mo_fire 26 = .ok (.invokestatic 124, 3) := by decide +kernel
theorem d_Mo_fire_29 : decode b_Mo_fire 29 = .ok (.ifCond .eq 30, 3) := by decide +kernel
theorem d_Mo_fire_32 : decode b_Mo_fire 32 = .ok (.iload 4, 2) := by decide +kernel
theorem d_Mo_fire_34 : decode b_Mo_fire 34 = .ok (.iconst 1, 1) := by decide +kernel
theorem d_Mo_fire_35 : decode b_Mo_fire 35 = .ok (.ldc 141, 2) := by decide +kernel
theorem d_Mo_fire_37 : decode b_Mo_fire 37 = .ok (.invokestatic 124, 3) := by decide +kernel
theorem d_Mo_fire_40 : decode b_Mo_fire 40 = .ok (.ifCond .eq 19, 3) := by decide +kernel
theorem d_Mo_fire_43 : decode b_Mo_fire 43 = .ok (.iload 5, 2) := by decide +kernel
theorem d_Mo_fire_45 : decode b_Mo_fire 45 = .ok (.iconst 0, 1) := by decide +kernel
theorem d_Mo_fire_46 : decode b_Mo_fire 46 = .ok (.sipush 1000, 3) := by decide +kernel
theorem d_Mo_fire_49 : decode b_Mo_fire 49 = .ok (.invokestatic 124, 3) := by decide +kernel
theorem d_Mo_fire_52 : decode b_Mo_fire 52 = .ok (.ifCond .eq 7, 3) := by decide +kernel
theorem d_Mo_fire_55 : decode b_Mo_fire 55 = .ok (.iconst 1, 1) := by decide +kernel
theorem d_Mo_fire_56 : decode b_Mo_fire 56 = .ok (.goto 4, 3) := by decide +kernel
theorem d_Mo_fire_59 : decode b_Mo_fire 59 = .ok (.iconst 0, 1) := by decide +kernel
theorem d_Mo_fire_60 : decode b_Mo_fire 60 = .ok (.istore 6, 2) := by decide +kernel
theorem d_Mo_fire_62 : decode b_Mo_fire 62 = .ok (.aload_n 0, 1) := by decide +kernel
theorem d_Mo_fire_63 : decode b_Mo_fire 63 = .ok (.iload 6, 2) := by decide +kernel
theorem d_Mo_fire_65 : decode b_Mo_fire 65 = .ok (.ifCond .ne 7, 3) := by decide +kernel
theorem d_Mo_fire_68 : decode b_Mo_fire 68 = .ok (.iconst 1, 1) := by decide +kernel
theorem d_Mo_fire_69 : decode b_Mo_fire 69 = .ok (.goto 16, 3) := by decide +kernel
theorem d_Mo_fire_72 : decode b_Mo_fire 72 = .ok (.aload_n 0, 1) := by decide +kernel
theorem d_Mo_fire_73 : decode b_Mo_fire 73 = .ok (.getfield 142, 3) := by decide +kernel
theorem d_Mo_fire_76 : decode b_Mo_fire 76 = .ok (.iconst 5, 1) := by decide +kernel
theorem d_Mo_fire_77 : decode b_Mo_fire 77 = .ok (.if_icmp .ne 7, 3) := by decide +kernel
theorem d_Mo_fire_80 : decode b_Mo_fire 80 = .ok (.iconst 2, 1) := by decide +kernel
theorem d_Mo_fire_81 : decode b_Mo_fire 81 = .ok (.goto 4, 3) := by decide +kernel
theorem d_Mo_fire_84 : decode b_Mo_fire 84 = .ok (.iconst 0, 1) := by decide +kernel
theorem d_Mo_fire_85 : decode b_Mo_fire 85 = .ok (.putfield 117, 3) := by decide +kernel
theorem d_Mo_fire_88 : decode b_Mo_fire 88 = .ok (.aload_n 0, 1) := by decide +kernel
theorem d_Mo_fire_89 : decode b_Mo_fire 89 = .ok (.getfield 117, 3) := by decide +kernel
theorem d_Mo_fire_92 : decode b_Mo_fire 92 = .ok (.ifCond .le 5, 3) := by decide +kernel
theorem d_Mo_fire_95 : decode b_Mo_fire 95 = .ok (.iconst 0, 1) := by decide +kernel
theorem d_Mo_fire_96 : decode b_Mo_fire 96 = .ok (.ireturn, 1) := by decide +kernel
theorem d_Mo_fire_97 : decode b_Mo_fire 97 = .ok (.aload_n 0, 1) := by decide +kernel
theorem d_Mo_fire_98 : decode b_Mo_fire 98 = .ok (.getfield 63, 3) := by decide +kernel
theorem d_Mo_fire_101 : decode b_Mo_fire 101 = .ok (.aload_n 0, 1) := by decide +kernel
theorem d_Mo_fire_102 : decode b_Mo_fire 102 = .ok (.getfield 142, 3) := by decide +kernel
theorem d_Mo_fire_105 : decode b_Mo_fire 105 = .ok (.iload_n 1, 1) := by decide +kernel
theorem d_Mo_fire_106 : decode b_Mo_fire 106 = .ok (.iastore, 1) := by decide +kernel
theorem d_Mo_fire_107 : decode b_Mo_fire 107 = .ok (.aload_n 0, 1) := by decide +kernel
theorem d_Mo_fire_108 : decode b_Mo_fire 108 = .ok (.getfield 66, 3) := by decide +kernel
theorem d_Mo_fire_111 : decode b_Mo_fire 111 = .ok (.aload_n 0, 1) := by decide +kernel
theorem d_Mo_fire_112 : decode b_Mo_fire 112 = .ok (.getfield 142, 3) := by decide +kernel
theorem d_Mo_fire_115 : decode b_Mo_fire 115 = .ok (.iload_n 2, 1) := by decide +kernel
theorem d_Mo_fire_116 : decode b_Mo_fire 116 = .ok (.iastore, 1) := by decide +kernel
theorem d_Mo_fire_117 : decode b_Mo_fire 117 = .ok (.aload_n 0, 1) := by decide +kernel
theorem d_Mo_fire_118 : decode b_Mo_fire 118 = .ok (.getfield 69, 3) := by decide +kernel
theorem d_Mo_fire_121 : decode b_Mo_fire 121 = .ok (.aload_n 0, 1) := by decide +kernel
theorem d_Mo_fire_122 : decode b_Mo_fire 122 = .ok (.getfield 142, 3) := by decide +kernel
theorem d_Mo_fire_125 : decode b_Mo_fire 125 = .ok (.iload_n 3, 1) := by decide +kernel
theorem d_Mo_fire_126 : decode b_Mo_fire 126 = .ok (.iastore, 1) := by decide +kernel
theorem d_Mo_fire_127 : decode b_Mo_fire 127 = .ok (.aload_n 0, 1) := by decide +kernel
theorem d_Mo_fire_128 : decode b_Mo_fire 128 = .ok (.getfield 72, 3) := by decide +kernel
theorem d_Mo_fire_131 : decode b_Mo_fire 131 = .ok (.aload_n 0, 1) := by decide +kernel
theorem d_Mo_fire_132 : decode b_Mo_fire 132 = .ok (.getfield 142, 3) := by decide +kernel
theorem d_Mo_fire_135 : decode b_Mo_fire 135 = .ok (.iload 4, 2) := by decide +kernel
theorem d_Mo_fire_137 : decode b_Mo_fire 137 = .ok (.iastore, 1) := by decide +kernel
theorem d_Mo_fire_138 : decode b_Mo_fire 138 = .ok (.aload_n 0, 1) := by decide +kernel
theorem d_Mo_fire_139 : decode b_Mo_fire 139 = .ok (.getfield 75, 3) := by decide +kernel
theorem d_Mo_fire_142 : decode b_Mo_fire 142 = .ok (.aload_n 0, 1) := by decide +kernel
theorem d_Mo_fire_143 : decode b_Mo_fire 143 = .ok (.getfield 142, 3) := by decide +kernel
theorem d_Mo_fire_146 : decode b_Mo_fire 146 = .ok (.iload 5, 2) := by decide +kernel
theorem d_Mo_fire_148 : decode b_Mo_fire 148 = .ok (.iastore, 1) := by decide +kernel
theorem d_Mo_fire_149 : decode b_Mo_fire 149 = .ok (.aload_n 0, 1) := by decide +kernel
theorem d_Mo_fire_150 : decode b_Mo_fire 150 = .ok (.dup, 1) := by decide +kernel
theorem d_Mo_fire_151 : decode b_Mo_fire 151 = .ok (.getfield 142, 3) := by decide +kernel
theorem d_Mo_fire_154 : decode b_Mo_fire 154 = .ok (.iconst 1, 1) := by decide +kernel
theorem d_Mo_fire_155 : decode b_Mo_fire 155 = .ok (.iadd, 1) := by decide +kernel
theorem d_Mo_fire_156 : decode b_Mo_fire 156 = .ok (.putfield 142, 3) := by decide +kernel
theorem d_Mo_fire_159 : decode b_Mo_fire 159 = .ok (.aload_n 0, 1) := by decide +kernel
theorem d_Mo_fire_160 : decode b_Mo_fire 160 = .ok (.getfield 142, 3) := by decide +kernel
theorem d_Mo_fire_163 : decode b_Mo_fire 163 = .ok (.iconst 1, 1) := by decide +kernel
theorem d_Mo_fire_164 : decode b_Mo_fire 164 = .ok (.isub, 1) := by decide +kernel
theorem d_Mo_fire_165 : decode b_Mo_fire 165 = .ok (.ireturn, 1) := by decide +kernel
theorem d_Mo_sprinkler_0 : decode b_Mo_sprinkler 0 = .ok (.aload_n 0, 1) := by decide +kernel
theorem d_Mo_sprinkler_1 : decode b_Mo_sprinkler 1 = .ok (.aload_n 0, 1) := by decide +kernel
theorem d_Mo_sprinkler_2 : decode b_Mo_sprinkler 2 = .ok (.iload_n 1, 1) := by decide +kernel
theorem d_Mo_sprinkler_3 : decode b_Mo_sprinkler 3 = .ok (.invokevirtual 128, 3) := by decide +kernel
theorem d_Mo_sprinkler_6 : decode b_Mo_sprinkler 6 = .ok (.ifCond .eq 14, 3) := by decide +kernel
theorem d_Mo_sprinkler_9 : decode b_Mo_sprinkler 9 = .ok (.iload_n 2, 1) := by decide +kernel
theorem d_Mo_sprinkler_10 : decode b_Mo_sprinkler 10 = .ok (.iconst 1, 1) := by decide +kernel
theorem d_Mo_sprinkler_11 : decode b_Mo_sprinkler 11 = .ok (.sipush 1000, 3) := by decide +kernel
theorem d_Mo_sprinkler_14 : decode b_Mo_sprinkler 14 = .ok (.invokestatic 124, 3) := by decide +kernel
theorem d_Mo_sprinkler_17 : decode b_Mo_sprinkler 17 = .ok (.ifCond .ne 7, 3) := by decide +kernel
theorem d_Mo_sprinkler_20 : decode b_Mo_sprinkler 20 = .ok (.iconst 1, 1) := by decide +kernel
theorem d_Mo_sprinkler_21 : decode b_Mo_sprinkler 21 = .ok (.goto 17, 3) := by decide +kernel
theorem d_Mo_sprinkler_24 : decode b_Mo_sprinkler 24 = .ok (.aload_n 0, 1) := by decide +kernel
theorem d_Mo_sprinkler_25 : decode b_Mo_sprinkler 25 = .ok (.getfield 23, 3) := by decide +kernel
theorem d_Mo_sprinkler_28 : decode b_Mo_sprinkler 28 = .ok (.iload_n 1, 1) := by decide +kernel
theorem d_Mo_sprinkler_29 : decode b_Mo_sprinkler 29 = .ok (.iaload, 1) := by decide +kernel
theorem d_Mo_sprinkler_30 : decode b_Mo_sprinkler 30 = .ok (.ifCond .le 7, 3) := by decide +kernel
theorem d_Mo_sprinkler_33 : decode b_Mo_sprinkler 33 = .ok (.iconst 2, 1) := by decide +kernel
theorem d_Mo_sprinkler_34 : decode b_Mo_sprinkler 34 = .ok (.goto 4, 3) := by decide +kernel
theorem d_Mo_sprinkler_37 : decode b_Mo_sprinkler 37 = .ok (.iconst 0, 1) := by decide +kernel
theorem d_Mo_sprinkler_38 : decode b_Mo_sprinkler 38 = .ok (.putfield 117, 3) := by decide +kernel
theorem d_Mo_sprinkler_41 : decode b_Mo_sprinkler 41 = .ok (.aload_n 0, 1) := by decide +kernel
theorem d_Mo_sprinkler_42 : decode b_Mo_sprinkler 42 = .ok (.getfield 117, 3) := by decide +kernel
theorem d_Mo_sprinkler_45 : decode b_Mo_sprinkler 45 = .ok (.ifCond .ne 10, 3) := by decide +kernel
theorem d_Mo_sprinkler_48 : decode b_Mo_sprinkler 48 = .ok (.aload_n 0, 1) := by decide +kernel
theorem d_Mo_sprinkler_49 : decode b_Mo_sprinkler 49 = .ok (.getfield 23, 3) := by decide +kernel
theorem d_Mo_sprinkler_52 : decode b_Mo_sprinkler 52 = .ok (.iload_n 1, 1) := by decide +kernel
theorem d_Mo_sprinkler_53 : decode b_Mo_sprinkler 53 = .ok (.iload_n 2, 1) := by decide +kernel
theorem d_Mo_sprinkler_54 : decode b_Mo_sprinkler 54 = .ok (.iastore, 1) := by decide +kernel
theorem d_Mo_sprinkler_55 : decode b_Mo_sprinkler 55 = .ok (.return_, 1) := by decide +kernel
theorem d_Mo_fan_0 : decode b_Mo_fan 0 = .ok (.aload_n 0, 1) := by decide +kernel
theorem d_Mo_fan_1 : decode b_Mo_fan 1 = .ok (.aload_n 0, 1) := by decide +kernel
theorem d_Mo_fan_2 : decode b_Mo_fan 2 = .ok (.iload_n 1, 1) := by decide +kernel
theorem d_Mo_fan_3 : decode b_Mo_fan 3 = .ok (.invokevirtual 128, 3) := by decide +kernel
theorem d_Mo_fan_6 : decode b_Mo_fan 6 = .ok (.ifCond .eq 26, 3) := by decide +kernel
theorem d_Mo_fan_9 : decode b_Mo_fan 9 = .ok (.iload_n 2, 1) := by decide +kernel
theorem d_Mo_fan_10 : decode b_Mo_fan 10 = .ok (.aload_n 0, 1) := by decide +kernel
theorem d_Mo_fan_11 : decode b_Mo_fan 11 = .ok (.getfield 138, 3) := by decide +kernel
theorem d_Mo_fan_14 : decode b_Mo_fan 14 = .ok (.ldc 141, 2) := by decide +kernel
theorem d_Mo_fan_16 : decode b_Mo_fan 16 = .ok (.invokestatic 124, 3) := by decide +kernel
theorem d_Mo_fan_19 : decode b_Mo_fan 19 = .ok (.ifCond .eq 13, 3) := by decide +kernel
theorem d_Mo_fan_22 : decode b_Mo_fan 22 = .ok (.iload_n 3, 1) := by decide +kernel
theorem d_Mo_fan_23 : decode b_Mo_fan 23 = .ok (.iconst 1, 1) := by decide +kernel
theorem d_Mo_fan_24 : decode b_Mo_fan 24 = .ok (.ldc 141, 2) := by decide +kernel
theorem d_Mo_fan_26 : decode b_Mo_fan 26 = .ok (.invokestatic 124, 3) := by decide +kernel
theorem d_Mo_fan_29 : decode b_Mo_fan 29 = .ok (.ifCond .ne 7, 3) := by decide +kernel
theorem d_Mo_fan_32 : decode b_Mo_fan 32 = .ok (.iconst 1, 1) := by decide +kernel
theorem d_Mo_fan_33 : decode b_Mo_fan 33 = .ok (.goto 17, 3) := by decide +kernel
theorem d_Mo_fan_36 : decode b_Mo_fan 36 = .ok (.aload_n 0, 1) := by decide +kernel
theorem d_Mo_fan_37 : decode b_Mo_fan 37 = .ok (.getfield 145, 3) := by decide +kernel
theorem d_Mo_fan_40 : decode b_Mo_fan 40 = .ok (.bipush 9, 2) := by decide +kernel
theorem d_Mo_fan_42 : decode b_Mo_fan 42 = .ok (.if_icmp .ne 7, 3) := by decide +kernel
theorem d_Mo_fan_45 : decode b_Mo_fan 45 = .ok (.iconst 2, 1) := by decide +kernel
theorem d_Mo_fan_46 : decode b_Mo_fan 46 = .ok (.goto 4, 3) := by decide +kernel
theorem d_Mo_fan_49 : decode b_Mo_fan 49 = .ok (.iconst 0, 1) := by decide +kernel
theorem d_Mo_fan_50 : decode b_Mo_fan 50 = .ok (.putfield 117, 3) := by decide +kernel
theorem d_Mo_fan_53 : decode b_Mo_fan 53 = .ok (.aload_n 0, 1) := by decide +kernel
theorem d_Mo_fan_54 : decode b_Mo_fan 54 = .ok (.getfield 117, 3) := by decide +kernel
theorem d_Mo_fan_57 : decode b_Mo_fan 57 = .ok (.ifCond .le 5, 3) := by decide +kernel
theorem d_Mo_fan_60 : decode b_Mo_fan 60 = .ok (.iconst 0, 1) := by decide +kernel
theorem d_Mo_fan_61 : decode b_Mo_fan 61 = .ok (.ireturn, 1) := by decide +kernel
theorem d_Mo_fan_62 : decode b_Mo_fan 62 = .ok (.aload_n 0, 1) := by decide +kernel
theorem d_Mo_fan_63 : decode b_Mo_fan 63 = .ok (.getfield 78, 3) := by decide +kernel
theorem d_Mo_fan_66 : decode b_Mo_fan 66 = .ok (.aload_n 0, 1) := by decide +kernel
theorem d_Mo_fan_67 : decode b_Mo_fan 67 = .ok (.getfield 145, 3) := by decide +kernel
theorem d_Mo_fan_70 : decode b_Mo_fan 70 = .ok (.iload_n 1, 1) := by decide +kernel
theorem d_Mo_fan_71 : decode b_Mo_fan 71 = .ok (.iastore, 1) := by decide +kernel
theorem d_Mo_fan_72 : decode b_Mo_fan 72 = .ok (.aload_n 0, 1) := by decide +kernel
theorem d_Mo_fan_73 : decode b_Mo_fan 73 = .ok (.getfield 81, 3) := by decide +kernel
theorem d_Mo_fan_76 : decode b_Mo_fan 76 = .ok (.aload_n 0, 1) := by decide +kernel
theorem d_Mo_fan_77 : decode b_Mo_fan 77 = .ok (.getfield 145, 3) := by decide +kernel
theorem d_Mo_fan_80 : decode b_Mo_fan 80 = .ok (.iload_n 2, 1) := by decide +kernel
theorem d_Mo_fan_81 : decode b_Mo_fan 81 = .ok (.iastore, 1) := by decide +kernel
theorem d_Mo_fan_82 : decode b_Mo_fan 82 = .ok (.aload_n 0, 1) := by decide +kernel
theorem d_Mo_fan_83 : decode b_Mo_fan 83 = .ok (.getfield 84, 3) := by decide +kernel
theorem d_Mo_fan_86 : decode b_Mo_fan 86 = .ok (.aload_n 0, 1) := by decide +kernel
theorem d_Mo_fan_87 : decode b_Mo_fan 87 = .ok (.getfield 145, 3) := by decide +kernel
theorem d_Mo_fan_90 : decode b_Mo_fan 90 = .ok (.iload_n 3, 1) := by decide +kernel
theorem d_Mo_fan_91 : decode b_Mo_fan 91 = .ok (.iastore, 1) := by decide +kernel
theorem d_Mo_fan_92 : decode b_Mo_fan 92 = .ok (.aload_n 0, 1) := by decide +kernel
theorem d_Mo_fan_93 : decode b_Mo_fan 93 = .ok (.dup, 1) := by decide +kernel
theorem d_Mo_fan_94 : decode b_Mo_fan 94 = .ok (.getfield 145, 3) := by decide +kernel
theorem d_Mo_fan_97 : decode b_Mo_fan 97 = .ok (.iconst 1, 1) := by decide +kernel
theorem d_Mo_fan_98 : decode b_Mo_fan 98 = .ok (.iadd, 1) := by decide +kernel
theorem d_Mo_fan_99 : decode b_Mo_fan 99 = .ok (.putfield 145, 3) := by decide +kernel
theorem d_Mo_fan_102 : decode b_Mo_fan 102 = .ok (.aload_n 0, 1) := by decide +kernel
theorem d_Mo_fan_103 : decode b_Mo_fan 103 = .ok (.getfield 145, 3) := by decide +kernel
theorem d_Mo_fan_106 : decode b_Mo_fan 106 = .ok (.iconst 1, 1) := by decide +kernel
theorem d_Mo_fan_107 : decode b_Mo_fan 107 = .ok (.isub, 1) := by decide +kernel
theorem d_Mo_fan_108 : decode b_Mo_fan 108 = .ok (.ireturn, 1) := by decide +kernel
theorem d_Mo_steel_0 : decode b_Mo_steel 0 = .ok (.aload_n 0, 1) := by decide +kernel
theorem d_Mo_steel_1 : decode b_Mo_steel 1 = .ok (.aload_n 0, 1) := by decide +kernel
theorem d_Mo_steel_2 : decode b_Mo_steel 2 = .ok (.iload_n 1, 1) := by decide +kernel
theorem d_Mo_steel_3 : decode b_Mo_steel 3 = .ok (.invokevirtual 128, 3) := by decide +kernel
theorem d_Mo_steel_6 : decode b_Mo_steel 6 = .ok (.ifCond .eq 14, 3) := by decide +kernel
theorem d_Mo_steel_9 : decode b_Mo_steel 9 = .ok (.iload_n 2, 1) := by decide +kernel
theorem d_Mo_steel_10 : decode b_Mo_steel 10 = .ok (.iconst 1, 1) := by decide +kernel
theorem d_Mo_steel_11 : decode b_Mo_steel 11 = .ok (.sipush 1000, 3) := by decide +kernel
theorem d_Mo_steel_14 : decode b_Mo_steel 14 = .ok (.invokestatic 124, 3) := by decide +kernel
theorem d_Mo_steel_17 : decode b_Mo_steel 17 = .ok (.ifCond .ne 7, 3) := by decide +kernel
theorem d_Mo_steel_20 : decode b_Mo_steel 20 = .ok (.iconst 1, 1) := by decide +kernel
theorem d_Mo_steel_21 : decode b_Mo_steel 21 = .ok (.goto 17, 3) := by decide +kernel
theorem d_Mo_steel_24 : decode b_Mo_steel 24 = .ok (.aload_n 0, 1) := by decide +kernel
theorem d_Mo_steel_25 : decode b_Mo_steel 25 = .ok (.getfield 148, 3) := by decide +kernel
theorem d_Mo_steel_28 : decode b_Mo_steel 28 = .ok (.bipush 9, 2) := by decide +kernel
theorem d_Mo_steel_30 : decode b_Mo_steel 30 = .ok (.if_icmp .ne 7, 3) := by decide +kernel
theorem d_Mo_steel_33 : decode b_Mo_steel 33 = .ok (.iconst 2, 1) := by decide +kernel
theorem d_Mo_steel_34 : decode b_Mo_steel 34 = .ok (.goto 4, 3) := by decide +kernel
theorem d_Mo_steel_37 : decode b_Mo_steel 37 = .ok (.iconst 0, 1) := by decide +kernel
theorem d_Mo_steel_38 : decode b_Mo_steel 38 = .ok (.putfield 117, 3) := by decide +kernel
theorem d_Mo_steel_41 : decode b_Mo_steel 41 = .ok (.aload_n 0, 1) := by decide +kernel
theorem d_Mo_steel_42 : decode b_Mo_steel 42 = .ok (.getfield 117, 3) := by decide +kernel
theorem d_Mo_steel_45 : decode b_Mo_steel 45 = .ok (.ifCond .le 5, 3) := by decide +kernel
theorem d_Mo_steel_48 : decode b_Mo_steel 48 = .ok (.iconst 0, 1) := by decide +kernel
theorem d_Mo_steel_49 : decode b_Mo_steel 49 = .ok (.ireturn, 1) := by decide +kernel
theorem d_Mo_steel_50 : decode b_Mo_steel 50 = .ok (.aload_n 0, 1) := by decide +kernel
theorem d_Mo_steel_51 : decode b_Mo_steel 51 = .ok (.getfield 87, 3) := by decide +kernel
theorem d_Mo_steel_54 : decode b_Mo_steel 54 = .ok (.aload_n 0, 1) := by decide +kernel
theorem d_Mo_steel_55 : decode b_Mo_steel 55 = .ok (.getfield 148, 3) := by decide +kernel
theorem d_Mo_steel_58 : decode b_Mo_steel 58 = .ok (.iload_n 1, 1) := by decide +kernel
theorem d_Mo_steel_59 : decode b_Mo_steel 59 = .ok (.iastore, 1) := by decide +kernel
theorem d_Mo_steel_60 : decode b_Mo_steel 60 = .ok (.aload_n 0, 1) := by decide +kernel
theorem d_Mo_steel_61 : decode b_Mo_steel 61 = .ok (.getfield 90, 3) := by decide +kernel
theorem d_Mo_steel_64 : decode b_Mo_steel 64 = .ok (.aload_n 0, 1) := by decide +kernel
theorem d_Mo_steel_65 : decode b_Mo_steel 65 = .ok (.getfield 148, 3) := by decide +kernel
theorem d_Mo_steel_68 : decode b_Mo_steel 68 = .ok (.iload_n 2, 1) := by decide +kernel
theorem d_Mo_steel_69 : decode b_Mo_steel 69 = .ok (.iastore, 1) := by decide +kernel
theorem d_Mo_steel_70 : decode b_Mo_steel 70 = .ok (.aload_n 0, 1) := by decide +kernel
theorem d_Mo_steel_71 : decode b_Mo_steel 71 = .ok (.dup, 1) := by decide +kernel
theorem d_Mo_steel_72 : decode b_Mo_steel 72 = .ok (.getfield 148, 3) := by decide +kernel
theorem d_Mo_steel_75 : decode b_Mo_steel 75 = .ok (.iconst 1, 1) := by decide +kernel
theorem d_Mo_steel_76 : decode b_Mo_steel 76 = .ok (.iadd, 1) := by decide +kernel
theorem d_Mo_steel_77 : decode b_Mo_steel 77 = .ok (.putfield 148, 3) := by decide +kernel
theorem d_Mo_steel_80 : decode b_Mo_steel 80 = .ok (.aload_n 0, 1) := by decide +kernel
theorem d_Mo_steel_81 : decode b_Mo_steel 81 = .ok (.getfield 148, 3) := by decide +kernel
theorem d_Mo_steel_84 : decode b_Mo_steel 84 = .ok (.iconst 1, 1) := by decide +kernel
theorem d_Mo_steel_85 : decode b_Mo_steel 85 = .ok (.isub, 1) := by decide +kernel
theorem d_Mo_steel_86 : decode b_Mo_steel 86 = .ok (.ireturn, 1) := by decide +kernel
theorem d_Mo_person_0 : decode b_Mo_person 0 = .ok (.aload_n 0, 1) := by decide +kernel
theorem d_Mo_person_1 : decode b_Mo_person 1 = .ok (.aload_n 0, 1) := by decide +kernel
theorem d_Mo_person_2 : decode b_Mo_person 2 = .ok (.iload_n 1, 1) := by decide +kernel
theorem d_Mo_person_3 : decode b_Mo_person 3 = .ok (.invokevirtual 132, 3) := by decide +kernel
theorem d_Mo_person_6 : decode b_Mo_person 6 = .ok (.ifCond .ne 7, 3) := by decide +kernel
theorem d_Mo_person_9 : decode b_Mo_person 9 = .ok (.iconst 1, 1) := by decide +kernel
theorem d_Mo_person_10 : decode b_Mo_person 10 = .ok (.goto 17, 3) := by decide +kernel
theorem d_Mo_person_13 : decode b_Mo_person 13 = .ok (.aload_n 0, 1) := by decide +kernel
theorem d_Mo_person_14 : decode b_Mo_person 14 = .ok (.getfield 151, 3) := by decide +kernel
theorem d_Mo_person_17 : decode b_Mo_person 17 = .ok (.bipush 9, 2) := by decide +kernel
theorem d_Mo_person_19 : decode b_Mo_person 19 = .ok (.if_icmp .ne 7, 3) := by decide +kernel
theorem d_Mo_person_22 : decode b_Mo_person 22 = .ok (.iconst 2, 1) := by decide +kernel
theorem d_Mo_person_23 : decode b_Mo_person 23 = .ok (.goto 4, 3) := by decide +kernel
theorem d_Mo_person_26 : decode b_Mo_person 26 = .ok (.iconst 0, 1) := by decide +kernel
theorem d_Mo_person_27 : decode b_Mo_person 27 = .ok (.putfield 117, 3) := by decide +kernel
theorem d_Mo_person_30 : decode b_Mo_person 30 = .ok (.aload_n 0, 1) := by decide +kernel
theorem d_Mo_person_31 : decode b_Mo_person 31 = .ok (.getfield 117, 3) := by decide +kernel
theorem d_Mo_person_34 : decode b_Mo_person 34 = .ok (.ifCond .le 5, 3) := by decide +kernel
theorem d_Mo_person_37 : decode b_Mo_person 37 = .ok (.iconst 0, 1) := by decide +kernel
theorem d_Mo_person_38 : decode b_Mo_person 38 = .ok (.ireturn, 1) := by decide +kernel
theorem d_Mo_person_39 : decode b_Mo_person 39 = .ok (.aload_n 0, 1) := by decide +kernel
theorem d_Mo_person_40 : decode b_Mo_person 40 = .ok (.getfield 96, 3) := by decide +kernel
theorem d_Mo_person_43 : decode b_Mo_person 43 = .ok (.aload_n 0, 1) := by decide +kernel
theorem d_Mo_person_44 : decode b_Mo_person 44 = .ok (.getfield 151, 3) := by decide +kernel
theorem d_Mo_person_47 : decode b_Mo_person 47 = .ok (.iload_n 1, 1) := by decide +kernel
theorem d_Mo_person_48 : decode b_Mo_person 48 = .ok (.iastore, 1) := by decide +kernel
theorem d_Mo_person_49 : decode b_Mo_person 49 = .ok (.aload_n 0, 1) := by decide +kernel
theorem d_Mo_person_50 : decode b_Mo_person 50 = .ok (.dup, 1) := by decide +kernel
theorem d_Mo_person_51 : decode b_Mo_person 51 = .ok (.getfield 151, 3) := by decide +kernel
theorem d_Mo_person_54 : decode b_Mo_person 54 = .ok (.iconst 1, 1) := by decide +kernel
theorem d_Mo_person_55 : decode b_Mo_person 55 = .ok (.iadd, 1) := by decide +kernel
theorem d_Mo_person_56 : decode b_Mo_person 56 = .ok (.putfield 151, 3) := by decide +kernel
theorem d_Mo_person_59 : decode b_Mo_person 59 = .ok (.aload_n 0, 1) := by decide +kernel
theorem d_Mo_person_60 : decode b_Mo_person 60 = .ok (.getfield 151, 3) := by decide +kernel
theorem d_Mo_person_63 : decode b_Mo_person 63 = .ok (.iconst 1, 1) := by decide +kernel
theorem d_Mo_person_64 : decode b_Mo_person 64 = .ok (.isub, 1) := by decide +kernel
theorem d_Mo_person_65 : decode b_Mo_person 65 = .ok (.ireturn, 1) := by decide +kernel
theorem d_Mo_go_0 : decode b_Mo_go 0 = .ok (.iload_n 1, 1) := by decide +kernel
theorem d_Mo_go_1 : decode b_Mo_go 1 = .ok (.iconst 0, 1) := by decide +kernel
theorem d_Mo_go_2 : decode b_Mo_go 2 = .ok (.aload_n 0, 1) := by decide +kernel
theorem d_Mo_go_3 : decode b_Mo_go 3 = .ok (.getfield 151, 3) := by decide +kernel
theorem d_Mo_go_6 : decode b_Mo_go 6 = .ok (.iconst 1, 1) := by decide +kernel
theorem d_Mo_go_7 : decode b_Mo_go 7 = .ok (.isub, 1) := by decide +kernel
theorem d_Mo_go_8 : decode b_Mo_go 8 = .ok (.invokestatic 124, 3) := by decide +kernel
theorem d_Mo_go_11 : decode b_Mo_go 11 = .ok (.ifCond .eq 28, 3) := by decide +kernel
theorem d_Mo_go_14 : decode b_Mo_go 14 = .ok (.iload_n 2, 1) := by decide +kernel
theorem d_Mo_go_15 : decode b_Mo_go 15 = .ok (.aload_n 0, 1) := by decide +kernel
theorem d_Mo_go_16 : decode b_Mo_go 16 = .ok (.getfield 138, 3) := by decide +kernel
theorem d_Mo_go_19 : decode b_Mo_go 19 = .ok (.ldc 141, 2) := by decide +kernel
theorem d_Mo_go_21 : decode b_Mo_go 21 = .ok (.invokestatic 124, 3) := by decide +kernel
theorem d_Mo_go_24 : decode b_Mo_go 24 = .ok (.ifCond .eq 15, 3) := by decide +kernel
theorem d_Mo_go_27 : decode b_Mo_go 27 = .ok (.aload_n 0, 1) := by decide +kernel
theorem d_Mo_go_28 : decode b_Mo_go 28 = .ok (.iload_n 3, 1) := by decide +kernel
theorem d_Mo_go_29 : decode b_Mo_go 29 = .ok (.invokevirtual 132, 3) := by decide +kernel
theorem d_Mo_go_32 : decode b_Mo_go 32 = .ok (.ifCond .eq 7, 3) := by decide +kernel
theorem d_Mo_go_35 : decode b_Mo_go 35 = .ok (.iconst 1, 1) := by decide +kernel
theorem d_Mo_go_36 : decode b_Mo_go 36 = .ok (.goto 4, 3) := by decide +kernel
theorem d_Mo_go_39 : decode b_Mo_go 39 = .ok (.iconst 0, 1) := by decide +kernel
theorem d_Mo_go_40 : decode b_Mo_go 40 = .ok (.istore 4, 2) := by decide +kernel
theorem d_Mo_go_42 : decode b_Mo_go 42 = .ok (.aload_n 0, 1) := by decide +kernel
theorem d_Mo_go_43 : decode b_Mo_go 43 = .ok (.iload 4, 2) := by decide +kernel
theorem d_Mo_go_45 : decode b_Mo_go 45 = .ok (.ifCond .ne 7, 3) := by decide +kernel
theorem d_Mo_go_48 : decode b_Mo_go 48 = .ok (.iconst 1, 1) := by decide +kernel
theorem d_Mo_go_49 : decode b_Mo_go 49 = .ok (.goto 50, 3) := by decide +kernel
theorem d_Mo_go_52 : decode b_Mo_go 52 = .ok (.aload_n 0, 1) := by decide +kernel
theorem d_Mo_go_53 : decode b_Mo_go 53 = .ok (.getfield 105, 3) := by decide +kernel
theorem d_Mo_go_56 : decode b_Mo_go 56 = .ok (.iload_n 1, 1) := by decide +kernel
theorem d_Mo_go_57 : decode b_Mo_go 57 = .ok (.iaload, 1) := by decide +kernel
theorem d_Mo_go_58 : decode b_Mo_go 58 = .ok (.bipush 20, 2) := by decide +kernel
theorem d_Mo_go_60 : decode b_Mo_go 60 = .ok (.if_icmp .eq 34, 3) := by decide +kernel
theorem d_Mo_go_63 : decode b_Mo_go 63 = .ok (.aload_n 0, 1) := by decide +kernel
theorem d_Mo_go_64 : decode b_Mo_go 64 = .ok (.getfield 105, 3) := by decide +kernel
theorem d_Mo_go_67 : decode b_Mo_go 67 = .ok (.iload_n 1, 1) := by decide +kernel
theorem d_Mo_go_68 : decode b_Mo_go 68 = .ok (.iaload, 1) := by decide +kernel
theorem d_Mo_go_69 : decode b_Mo_go 69 = .ok (.ifCond .le 29, 3) := by decide +kernel
theorem d_Mo_go_72 : decode b_Mo_go 72 = .ok (.aload_n 0, 1) := by decide +kernel
theorem d_Mo_go_73 : decode b_Mo_go 73 = .ok (.getfield 111, 3) := by decide +kernel
theorem d_Mo_go_76 : decode b_Mo_go 76 = .ok (.bipush 20, 2) := by decide +kernel
theorem d_Mo_go_78 : decode b_Mo_go 78 = .ok (.iload_n 1, 1) := by decide +kernel
theorem d_Mo_go_79 : decode b_Mo_go 79 = .ok (.imul, 1) := by decide +kernel
theorem d_Mo_go_80 : decode b_Mo_go 80 = .ok (.aload_n 0, 1) := by decide +kernel
theorem d_Mo_go_81 : decode b_Mo_go 81 = .ok (.getfield 105, 3) := by decide +kernel
theorem d_Mo_go_84 : decode b_Mo_go 84 = .ok (.iload_n 1, 1) := by decide +kernel
theorem d_Mo_go_85 : decode b_Mo_go 85 = .ok (.iaload, 1) := by decide +kernel
theorem d_Mo_go_86 : decode b_Mo_go 86 = .ok (.iadd, 1) := by decide +kernel
theorem d_Mo_go_87 : decode b_Mo_go 87 = .ok (.iconst 1, 1) := by decide +kernel
theorem d_Mo_go_88 : decode b_Mo_go 88 = .ok (.isub, 1) := by decide +kernel
theorem d_Mo_go_89 : decode b_Mo_go 89 = .ok (.iaload, 1) := by decide +kernel
theorem d_Mo_go_90 : decode b_Mo_go 90 = .ok (.iload_n 2, 1) := by decide +kernel
theorem d_Mo_go_91 : decode b_Mo_go 91 = .ok (.if_icmp .lt 7, 3) := by decide +kernel
theorem d_Mo_go_94 : decode b_Mo_go 94 = .ok (.iconst 2, 1) := by decide +kernel
theorem d_Mo_go_95 : decode b_Mo_go 95 = .ok (.goto 4, 3) := by decide +kernel
theorem d_Mo_go_98 : decode b_Mo_go 98 = .ok (.iconst 0, 1) := by decide +kernel
theorem d_Mo_go_99 : decode b_Mo_go 99 = .ok (.putfield 117, 3) := by decide +kernel
theorem d_Mo_go_102 : decode b_Mo_go 102 = .ok (.aload_n 0, 1) := by decide +kernel
theorem d_Mo_go_103 : decode b_Mo_go 103 = .ok (.getfield 117, 3) := by decide +kernel
theorem d_Mo_go_106 : decode b_Mo_go 106 = .ok (.ifCond .ne 47, 3) := by decide +kernel
theorem d_Mo_go_109 : decode b_Mo_go 109 = .ok (.aload_n 0, 1) := by decide +kernel
theorem d_Mo_go_110 : decode b_Mo_go 110 = .ok (.getfield 111, 3) := by decide +kernel
theorem d_Mo_go_113 : decode b_Mo_go 113 = .ok (.bipush 20, 2) := by decide +kernel
theorem d_Mo_go_115 : decode b_Mo_go 115 = .ok (.iload_n 1, 1) := by decide +kernel
theorem d_Mo_go_116 : decode b_Mo_go 116 = .ok (.imul, 1) := by decide +kernel
theorem d_Mo_go_117 : decode b_Mo_go 117 = .ok (.aload_n 0, 1) := by decide +kernel
theorem d_Mo_go_118 : decode b_Mo_go 118 = .ok (.getfield 105, 3) := by decide +kernel
theorem d_Mo_go_121 : decode b_Mo_go 121 = .ok (.iload_n 1, 1) := by decide +kernel
theorem d_Mo_go_122 : decode b_Mo_go 122 = .ok (.iaload, 1) := by decide +kernel
theorem d_Mo_go_123 : decode b_Mo_go 123 = .ok (.iadd, 1) := by decide +kernel
theorem d_Mo_go_124 : decode b_Mo_go 124 = .ok (.iload_n 2, 1) := by decide +kernel
theorem d_Mo_go_125 : decode b_Mo_go 125 = .ok (.iastore, 1) := by decide +kernel
theorem d_Mo_go_126 : decode b_Mo_go 126 = .ok (.aload_n 0, 1) := by decide +kernel
theorem d_Mo_go_127 : decode b_Mo_go 127 = .ok (.getfield 114, 3) := by decide +kernel
theorem d_Mo_go_130 : decode b_Mo_go 130 = .ok (.bipush 20, 2) := by decide +kernel
theorem d_Mo_go_132 : decode b_Mo_go 132 = .ok (.iload_n 1, 1) := by decide +kernel
theorem d_Mo_go_133 : decode b_Mo_go 133 = .ok (.imul, 1) := by decide +kernel
theorem d_Mo_go_134 : decode b_Mo_go 134 = .ok (.aload_n 0, 1) := by decide +kernel
theorem d_Mo_go_135 : decode b_Mo_go 135 = .ok (.getfield 105, 3) := by decide +kernel
theorem d_Mo_go_138 : decode b_Mo_go 138 = .ok (.iload_n 1, 1) := by decide +kernel
theorem d_Mo_go_139 : decode b_Mo_go 139 = .ok (.iaload, 1) := by decide +kernel
theorem d_Mo_go_140 : decode b_Mo_go 140 = .ok (.iadd, 1) := by decide +kernel
theorem d_Mo_go_141 : decode b_Mo_go 141 = .ok (.iload_n 3, 1) := by decide +kernel
theorem d_Mo_go_142 : decode b_Mo_go 142 = .ok (.iastore, 1) := by decide +kernel
theorem d_Mo_go_143 : decode b_Mo_go 143 = .ok (.aload_n 0, 1) := by decide +kernel
theorem d_Mo_go_144 : decode b_Mo_go 144 = .ok (.getfield 105, 3) := by decide +kernel
theorem d_Mo_go_147 : decode b_Mo_go 147 = .ok (.iload_n 1, 1) := by decide +kernel
theorem d_Mo_go_148 : decode b_Mo_go 148 = .ok (.dup2, 1) := by decide +kernel
theorem d_Mo_go_149 : decode b_Mo_go 149 = .ok (.iaload, 1) := by decide +kernel
theorem d_Mo_go_150 : decode b_Mo_go 150 = .ok (.iconst 1, 1) := by decide +kernel
theorem d_Mo_go_151 : decode b_Mo_go 151 = .ok (.iadd, 1) := by decide +kernel
theorem d_Mo_go_152 : decode b_Mo_go 152 = .ok (.iastore, 1) := by decide +kernel
theorem d_Mo_go_153 : decode b_Mo_go 153 = .ok (.return_, 1) := by decide +kernel
theorem d_Mo_run_0 : decode b_Mo_run 0 = .ok (.aload_n 0, 1) := by decide +kernel
theorem d_Mo_run_1 : decode b_Mo_run 1 = .ok (.iload_n 1, 1) := by decide +kernel
theorem d_Mo_run_2 : decode b_Mo_run 2 = .ok (.iconst 1, 1) := by decide +kernel
theorem d_Mo_run_3 : decode b_Mo_run 3 = .ok (.sipush 500, 3) := by decide +kernel
theorem d_Mo_run_6 : decode b_Mo_run 6 = .ok (.invokestatic 124, 3) := by decide +kernel
theorem d_Mo_run_9 : decode b_Mo_run 9 = .ok (.ifCond .ne 7, 3) := by decide +kernel
theorem d_Mo_run_12 : decode b_Mo_run 12 = .ok (.iconst 1, 1) := by decide +kernel
theorem d_Mo_run_13 : decode b_Mo_run 13 = .ok (.goto 19, 3) := by decide +kernel
theorem d_Mo_run_16 : decode b_Mo_run 16 = .ok (.aload_n 0, 1) := by decide +kernel
theorem d_Mo_run_17 : decode b_Mo_run 17 = .ok (.getfield 138, 3) := by decide +kernel
theorem d_Mo_run_20 : decode b_Mo_run 20 = .ok (.iload_n 1, 1) := by decide +kernel
theorem d_Mo_run_21 : decode b_Mo_run 21 = .ok (.iadd, 1) := by decide +kernel
theorem d_Mo_run_22 : decode b_Mo_run 22 = .ok (.ldc 141, 2) := by decide +kernel
theorem d_Mo_run_24 : decode b_Mo_run 24 = .ok (.if_icmp .le 7, 3) := by decide +kernel
theorem d_Mo_run_27 : decode b_Mo_run 27 = .ok (.iconst 2, 1) := by decide +kernel
theorem d_Mo_run_28 : decode b_Mo_run 28 = .ok (.goto 4, 3) := by decide +kernel
theorem d_Mo_run_31 : decode b_Mo_run 31 = .ok (.iconst 0, 1) := by decide +kernel
theorem d_Mo_run_32 : decode b_Mo_run 32 = .ok (.putfield 117, 3) := by decide +kernel
theorem d_Mo_run_35 : decode b_Mo_run 35 = .ok (.iconst 0, 1) := by decide +kernel
theorem d_Mo_run_36 : decode b_Mo_run 36 = .ok (.istore_n 2, 1) := by decide +kernel
theorem d_Mo_run_37 : decode b_Mo_run 37 = .ok (.iload_n 2, 1) := by decide +kernel
theorem d_Mo_run_38 : decode b_Mo_run 38 = .ok (.iload_n 1, 1) := by decide +kernel
theorem d_Mo_run_39 : decode b_Mo_run 39 = .ok (.if_icmp .ge 50, 3) := by decide +kernel
theorem d_Mo_run_42 : decode b_Mo_run 42 = .ok (.aload_n 0, 1) := by decide +kernel
theorem d_Mo_run_43 : decode b_Mo_run 43 = .ok (.getfield 117, 3) := by decide +kernel
theorem d_Mo_run_46 : decode b_Mo_run 46 = .ok (.ifCond .ne 43, 3) := by decide +kernel
theorem d_Mo_run_49 : decode b_Mo_run 49 = .ok (.aload_n 0, 1) := by decide +kernel
theorem d_Mo_run_50 : decode b_Mo_run 50 = .ok (.invokevirtual 190, 3) := by decide +kernel
theorem d_Mo_run_53 : decode b_Mo_run 53 = .ok (.aload_n 0, 1) := by decide +kernel
theorem d_Mo_run_54 : decode b_Mo_run 54 = .ok (.invokevirtual 193, 3) := by decide +kernel
theorem d_Mo_run_57 : decode b_Mo_run 57 = .ok (.aload_n 0, 1) := by decide +kernel
theorem d_Mo_run_58 : decode b_Mo_run 58 = .ok (.invokevirtual 196, 3) := by decide +kernel
theorem d_Mo_run_61 : decode b_Mo_run 61 = .ok (.aload_n 0, 1) := by decide +kernel
theorem d_Mo_run_62 : decode b_Mo_run 62 = .ok (.invokevirtual 199, 3) := by decide +kernel
theorem d_Mo_run_65 : decode b_Mo_run 65 = .ok (.aload_n 0, 1) := by decide +kernel
theorem d_Mo_run_66 : decode b_Mo_run 66 = .ok (.invokevirtual 202, 3) := by decide +kernel
theorem d_Mo_run_69 : decode b_Mo_run 69 = .ok (.aload_n 0, 1) := by decide +kernel
theorem d_Mo_run_70 : decode b_Mo_run 70 = .ok (.invokevirtual 205, 3) := by decide +kernel
theorem d_Mo_run_73 : decode b_Mo_run 73 = .ok (.aload_n 0, 1) := by decide +kernel
theorem d_Mo_run_74 : decode b_Mo_run 74 = .ok (.dup, 1) := by decide +kernel
theorem d_Mo_run_75 : decode b_Mo_run 75 = .ok (.getfield 138, 3) := by decide +kernel
theorem d_Mo_run_78 : decode b_Mo_run 78 = .ok (.iconst 1, 1) := by decide +kernel
theorem d_Mo_run_79 : decode b_Mo_run 79 = .ok (.iadd, 1) := by decide +kernel
theorem d_Mo_run_80 : decode b_Mo_run 80 = .ok (.putfield 138, 3) := by decide +kernel
theorem d_Mo_run_83 : decode b_Mo_run 83 = .ok (.iinc 2 1, 3) := by decide +kernel
theorem d_Mo_run_86 : decode b_Mo_run 86 = .ok (.goto (-49), 3) := by decide +kernel
theorem d_Mo_run_89 : decode b_Mo_run 89 = .ok (.aload_n 0, 1) := by decide +kernel
theorem d_Mo_run_90 : decode b_Mo_run 90 = .ok (.getfield 117, 3) := by decide +kernel
theorem d_Mo_run_93 : decode b_Mo_run 93 = .ok (.ifCond .le 7, 3) := by decide +kernel
theorem d_Mo_run_96 : decode b_Mo_run 96 = .ok (.iconst 0, 1) := by decide +kernel
theorem d_Mo_run_97 : decode b_Mo_run 97 = .ok (.goto 7, 3) := by decide +kernel
theorem d_Mo_run_100 : decode b_Mo_run 100 = .ok (.aload_n 0, 1) := by decide +kernel
theorem d_Mo_run_101 : decode b_Mo_run 101 = .ok (.getfield 138, 3) := by decide +kernel
theorem d_Mo_run_104 : decode b_Mo_run 104 = .ok (.ireturn, 1) := by decide +kernel
theorem d_Mo_burn_0 : decode b_Mo_burn 0 = .ok (.iconst 0, 1) := by decide +kernel
theorem d_Mo_burn_1 : decode b_Mo_burn 1 = .ok (.istore_n 1, 1) := by decide +kernel
theorem d_Mo_burn_2 : decode b_Mo_burn 2 = .ok (.iload_n 1, 1) := by decide +kernel
theorem d_Mo_burn_3 : decode b_Mo_burn 3 = .ok (.aload_n 0, 1) := by decide +kernel
theorem d_Mo_burn_4 : decode b_Mo_burn 4 = .ok (.getfield 142, 3) := by decide +kernel
theorem d_Mo_burn_7 : decode b_Mo_burn 7 = .ok (.if_icmp .ge 141, 3) := by decide +kernel
theorem d_Mo_burn_10 : decode b_Mo_burn 10 = .ok (.aload_n 0, 1) := by decide +kernel
theorem d_Mo_burn_11 : decode b_Mo_burn 11 = .ok (.getfield 66, 3) := by decide +kernel
theorem d_Mo_burn_14 : decode b_Mo_burn 14 = .ok (.iload_n 1, 1) := by decide +kernel
theorem d_Mo_burn_15 : decode b_Mo_burn 15 = .ok (.iaload, 1) := by decide +kernel
theorem d_Mo_burn_16 : decode b_Mo_burn 16 = .ok (.aload_n 0, 1) := by decide +kernel
theorem d_Mo_burn_17 : decode b_Mo_burn 17 = .ok (.getfield 138, 3) := by decide +kernel
theorem d_Mo_burn_20 : decode b_Mo_burn 20 = .ok (.if_icmp .gt 122, 3) := by decide +kernel
theorem d_Mo_burn_23 : decode b_Mo_burn 23 = .ok (.aload_n 0, 1) := by decide +kernel
theorem d_Mo_burn_24 : decode b_Mo_burn 24 = .ok (.getfield 138, 3) := by decide +kernel
theorem d_Mo_burn_27 : decode b_Mo_burn 27 = .ok (.aload_n 0, 1) := by decide +kernel
theorem d_Mo_burn_28 : decode b_Mo_burn 28 = .ok (.getfield 66, 3) := by decide +kernel
theorem d_Mo_burn_31 : decode b_Mo_burn 31 = .ok (.iload_n 1, 1) := by decide +kernel
theorem d_Mo_burn_32 : decode b_Mo_burn 32 = .ok (.iaload, 1) := by decide +kernel
theorem d_Mo_burn_33 : decode b_Mo_burn 33 = .ok (.isub, 1) := by decide +kernel
theorem d_Mo_burn_34 : decode b_Mo_burn 34 = .ok (.i2l, 1) := by decide +kernel
theorem d_Mo_burn_35 : decode b_Mo_burn 35 = .ok (.lconst 1, 1) := by decide +kernel
theorem d_Mo_burn_36 : decode b_Mo_burn 36 = .ok (.ladd, 1) := by decide +kernel
theorem d_Mo_burn_37 : decode b_Mo_burn 37 = .ok (.aload_n 0, 1) := by decide +kernel
theorem d_Mo_burn_38 : decode b_Mo_burn 38 = .ok (.getfield 69, 3) := by decide +kernel
theorem d_Mo_burn_41 : decode b_Mo_burn 41 = .ok (.iload_n 1, 1) := by decide +kernel
theorem d_Mo_burn_42 : decode b_Mo_burn 42 = .ok (.iaload, 1) := by decide +kernel
theorem d_Mo_burn_43 : decode b_Mo_burn 43 = .ok (.i2l, 1) := by decide +kernel
theorem d_Mo_burn_44 : decode b_Mo_burn 44 = .ok (.lmul, 1) := by decide +kernel
theorem d_Mo_burn_45 : decode b_Mo_burn 45 = .ok (.lstore_n 2, 1) := by decide +kernel
theorem d_Mo_burn_46 : decode b_Mo_burn 46 = .ok (.lload_n 2, 1) := by decide +kernel
theorem d_Mo_burn_47 : decode b_Mo_burn 47 = .ok (.aload_n 0, 1) := by decide +kernel
theorem d_Mo_burn_48 : decode b_Mo_burn 48 = .ok (.getfield 72, 3) := by decide +kernel
theorem d_Mo_burn_51 : decode b_Mo_burn 51 = .ok (.iload_n 1, 1) := by decide +kernel
theorem d_Mo_burn_52 : decode b_Mo_burn 52 = .ok (.iaload, 1) := by decide +kernel
theorem d_Mo_burn_53 : decode b_Mo_burn 53 = .ok (.i2l, 1) := by decide +kernel
theorem d_Mo_burn_54 : decode b_Mo_burn 54 = .ok (.lcmp, 1) := by decide +kernel
theorem d_Mo_burn_55 : decode b_Mo_burn 55 = .ok (.ifCond .le 13, 3) := by decide +kernel
theorem d_Mo_burn_58 : decode b_Mo_burn 58 = .ok (.aload_n 0, 1) := by decide +kernel
theorem d_Mo_burn_59 : decode b_Mo_burn 59 = .ok (.getfield 72, 3) := by decide +kernel
theorem d_Mo_burn_62 : decode b_Mo_burn 62 = .ok (.iload_n 1, 1) := by decide +kernel
theorem d_Mo_burn_63 : decode b_Mo_burn 63 = .ok (.iaload, 1) := by decide +kernel
theorem d_Mo_burn_64 : decode b_Mo_burn 64 = .ok (.i2l, 1) := by decide +kernel
theorem d_Mo_burn_65 : decode b_Mo_burn 65 = .ok (.goto 4, 3) := by decide +kernel
theorem d_Mo_burn_68 : decode b_Mo_burn 68 = .ok (.lload_n 2, 1) := by decide +kernel
theorem d_Mo_burn_69 : decode b_Mo_burn 69 = .ok (.lstore_n 2, 1) := by decide +kernel
theorem d_Mo_burn_70 : decode b_Mo_burn 70 = .ok (.aload_n 0, 1) := by decide +kernel
theorem d_Mo_burn_71 : decode b_Mo_burn 71 = .ok (.getfield 26, 3) := by decide +kernel
theorem d_Mo_burn_74 : decode b_Mo_burn 74 = .ok (.aload_n 0, 1) := by decide +kernel
theorem d_Mo_burn_75 : decode b_Mo_burn 75 = .ok (.getfield 63, 3) := by decide +kernel
theorem d_Mo_burn_78 : decode b_Mo_burn 78 = .ok (.iload_n 1, 1) := by decide +kernel
theorem d_Mo_burn_79 : decode b_Mo_burn 79 = .ok (.iaload, 1) := by decide +kernel
theorem d_Mo_burn_80 : decode b_Mo_burn 80 = .ok (.baload, 1) := by decide +kernel
theorem d_Mo_burn_81 : decode b_Mo_burn 81 = .ok (.ifCond .eq 11, 3) := by decide +kernel
theorem d_Mo_burn_84 : decode b_Mo_burn 84 = .ok (.lload_n 2, 1) := by decide +kernel
theorem d_Mo_burn_85 : decode b_Mo_burn 85 = .ok (.ldc2_w 158, 3) := by decide +kernel
theorem d_Mo_burn_88 : decode b_Mo_burn 88 = .ok (.ldiv, 1) := by decide +kernel
theorem d_Mo_burn_89 : decode b_Mo_burn 89 = .ok (.goto 4, 3) := by decide +kernel
theorem d_Mo_burn_92 : decode b_Mo_burn 92 = .ok (.lload_n 2, 1) := by decide +kernel
theorem d_Mo_burn_93 : decode b_Mo_burn 93 = .ok (.lstore_n 2, 1) := by decide +kernel
theorem d_Mo_burn_94 : decode b_Mo_burn 94 = .ok (.aload_n 0, 1) := by decide +kernel
theorem d_Mo_burn_95 : decode b_Mo_burn 95 = .ok (.getfield 16, 3) := by decide +kernel
theorem d_Mo_burn_98 : decode b_Mo_burn 98 = .ok (.aload_n 0, 1) := by decide +kernel
theorem d_Mo_burn_99 : decode b_Mo_burn 99 = .ok (.getfield 63, 3) := by decide +kernel
theorem d_Mo_burn_102 : decode b_Mo_burn 102 = .ok (.iload_n 1, 1) := by decide +kernel
theorem d_Mo_burn_103 : decode b_Mo_burn 103 = .ok (.iaload, 1) := by decide +kernel
theorem d_Mo_burn_104 : decode b_Mo_burn 104 = .ok (.dup2, 1) := by decide +kernel
theorem d_Mo_burn_105 : decode b_Mo_burn 105 = .ok (.laload, 1) := by decide +kernel
theorem d_Mo_burn_106 : decode b_Mo_burn 106 = .ok (.lload_n 2, 1) := by decide +kernel
theorem d_Mo_burn_107 : decode b_Mo_burn 107 = .ok (.ladd, 1) := by decide +kernel
theorem d_Mo_burn_108 : decode b_Mo_burn 108 = .ok (.lastore, 1) := by decide +kernel
theorem d_Mo_burn_109 : decode b_Mo_burn 109 = .ok (.aload_n 0, 1) := by decide +kernel
theorem d_Mo_burn_110 : decode b_Mo_burn 110 = .ok (.getfield 20, 3) := by decide +kernel
theorem d_Mo_burn_113 : decode b_Mo_burn 113 = .ok (.aload_n 0, 1) := by decide +kernel
theorem d_Mo_burn_114 : decode b_Mo_burn 114 = .ok (.getfield 63, 3) := by decide +kernel
theorem d_Mo_burn_117 : decode b_Mo_burn 117 = .ok (.iload_n 1, 1) := by decide +kernel
theorem d_Mo_burn_118 : decode b_Mo_burn 118 = .ok (.iaload, 1) := by decide +kernel
theorem d_Mo_burn_119 : decode b_Mo_burn 119 = .ok (.dup2, 1) := by decide +kernel
theorem d_Mo_burn_120 : decode b_Mo_burn 120 = .ok (.laload, 1) := by decide +kernel
theorem d_Mo_burn_121 : decode b_Mo_burn 121 = .ok (.lload_n 2, 1) := by decide +kernel
theorem d_Mo_burn_122 : decode b_Mo_burn 122 = .ok (.aload_n 0, 1) := by decide +kernel
theorem d_Mo_burn_123 : decode b_Mo_burn 123 = .ok (.getfield 75, 3) := by decide +kernel
theorem d_Mo_burn_126 : decode b_Mo_burn 126 = .ok (.iload_n 1, 1) := by decide +kernel
theorem d_Mo_burn_127 : decode b_Mo_burn 127 = .ok (.iaload, 1) := by decide +kernel
theorem d_Mo_burn_128 : decode b_Mo_burn 128 = .ok (.i2l, 1) := by decide +kernel
theorem d_Mo_burn_129 : decode b_Mo_burn 129 = .ok (.lmul, 1) := by decide +kernel
theorem d_Mo_burn_130 : decode b_Mo_burn 130 = .ok (.ladd, 1) := by decide +kernel
theorem d_Mo_burn_131 : decode b_Mo_burn 131 = .ok (.lastore, 1) := by decide +kernel
theorem d_Mo_burn_132 : decode b_Mo_burn 132 = .ok (.aload_n 0, 1) := by decide +kernel
theorem d_Mo_burn_133 : decode b_Mo_burn 133 = .ok (.dup, 1) := by decide +kernel
theorem d_Mo_burn_134 : decode b_Mo_burn 134 = .ok (.getfield 160, 3) := by decide +kernel
theorem d_Mo_burn_137 : decode b_Mo_burn 137 = .ok (.lload_n 2, 1) := by decide +kernel
theorem d_Mo_burn_138 : decode b_Mo_burn 138 = .ok (.ladd, 1) := by decide +kernel
theorem d_Mo_burn_139 : decode b_Mo_burn 139 = .ok (.putfield 160, 3) := by decide +kernel
theorem d_Mo_burn_142 : decode b_Mo_burn 142 = .ok (.iinc 1 1, 3) := by decide +kernel
theorem d_Mo_burn_145 : decode b_Mo_burn 145 = .ok (.goto (-143), 3) := by decide +kernel
theorem d_Mo_burn_148 : decode b_Mo_burn 148 = .ok (.return_, 1) := by decide +kernel
theorem d_Mo_flow_0 : decode b_Mo_flow 0 = .ok (.iconst 0, 1) := by decide +kernel
theorem d_Mo_flow_1 : decode b_Mo_flow 1 = .ok (.istore_n 1, 1) := by decide +kernel
theorem d_Mo_flow_2 : decode b_Mo_flow 2 = .ok (.iload_n 1, 1) := by decide +kernel
theorem d_Mo_flow_3 : decode b_Mo_flow 3 = .ok (.aload_n 0, 1) := by decide +kernel
theorem d_Mo_flow_4 : decode b_Mo_flow 4 = .ok (.getfield 135, 3) := by decide +kernel
theorem d_Mo_flow_7 : decode b_Mo_flow 7 = .ok (.if_icmp .ge 189, 3) := by decide +kernel
theorem d_Mo_flow_10 : decode b_Mo_flow 10 = .ok (.aload_n 0, 1) := by decide +kernel
theorem d_Mo_flow_11 : decode b_Mo_flow 11 = .ok (.getfield 54, 3) := by decide +kernel
theorem d_Mo_flow_14 : decode b_Mo_flow 14 = .ok (.iload_n 1, 1) := by decide +kernel
theorem d_Mo_flow_15 : decode b_Mo_flow 15 = .ok (.lconst 0, 1) := by decide +kernel
theorem d_Mo_flow_16 : decode b_Mo_flow 16 = .ok (.lastore, 1) := by decide +kernel
theorem d_Mo_flow_17 : decode b_Mo_flow 17 = .ok (.aload_n 0, 1) := by decide +kernel
theorem d_Mo_flow_18 : decode b_Mo_flow 18 = .ok (.getfield 57, 3) := by decide +kernel
theorem d_Mo_flow_21 : decode b_Mo_flow 21 = .ok (.iload_n 1, 1) := by decide +kernel
theorem d_Mo_flow_22 : decode b_Mo_flow 22 = .ok (.lconst 0, 1) := by decide +kernel
theorem d_Mo_flow_23 : decode b_Mo_flow 23 = .ok (.lastore, 1) := by decide +kernel
theorem d_Mo_flow_24 : decode b_Mo_flow 24 = .ok (.aload_n 0, 1) := by decide +kernel
theorem d_Mo_flow_25 : decode b_Mo_flow 25 = .ok (.getfield 51, 3) := by decide +kernel
theorem d_Mo_flow_28 : decode b_Mo_flow 28 = .ok (.iload_n 1, 1) := by decide +kernel
theorem d_Mo_flow_29 : decode b_Mo_flow 29 = .ok (.baload, 1) := by decide +kernel
theorem d_Mo_flow_30 : decode b_Mo_flow 30 = .ok (.ifCond .eq 29, 3) := by decide +kernel
theorem d_Mo_flow_33 : decode b_Mo_flow 33 = .ok (.aload_n 0, 1) := by decide +kernel
theorem d_Mo_flow_34 : decode b_Mo_flow 34 = .ok (.iload_n 1, 1) := by decide +kernel
theorem d_Mo_flow_35 : decode b_Mo_flow 35 = .ok (.aload_n 0, 1) := by decide +kernel
theorem d_Mo_flow_36 : decode b_Mo_flow 36 = .ok (.getfield 33, 3) := by decide +kernel
theorem d_Mo_flow_39 : decode b_Mo_flow 39 = .ok (.iload_n 1, 1) := by decide +kernel
theorem d_Mo_flow_40 : decode b_Mo_flow 40 = .ok (.iaload, 1) := by decide +kernel
theorem d_Mo_flow_41 : decode b_Mo_flow 41 = .ok (.invokevirtual 164, 3) := by decide +kernel
theorem d_Mo_flow_44 : decode b_Mo_flow 44 = .ok (.aload_n 0, 1) := by decide +kernel
theorem d_Mo_flow_45 : decode b_Mo_flow 45 = .ok (.iload_n 1, 1) := by decide +kernel
theorem d_Mo_flow_46 : decode b_Mo_flow 46 = .ok (.aload_n 0, 1) := by decide +kernel
theorem d_Mo_flow_47 : decode b_Mo_flow 47 = .ok (.getfield 36, 3) := by decide +kernel
theorem d_Mo_flow_50 : decode b_Mo_flow 50 = .ok (.iload_n 1, 1) := by decide +kernel
theorem d_Mo_flow_51 : decode b_Mo_flow 51 = .ok (.iaload, 1) := by decide +kernel
theorem d_Mo_flow_52 : decode b_Mo_flow 52 = .ok (.invokevirtual 164, 3) := by decide +kernel
theorem d_Mo_flow_55 : decode b_Mo_flow 55 = .ok (.lsub, 1) := by decide +kernel
theorem d_Mo_flow_56 : decode b_Mo_flow 56 = .ok (.goto 4, 3) := by decide +kernel
theorem d_Mo_flow_59 : decode b_Mo_flow 59 = .ok (.lconst 0, 1) := by decide +kernel
theorem d_Mo_flow_60 : decode b_Mo_flow 60 = .ok (.lstore_n 2, 1) := by decide +kernel
theorem d_Mo_flow_61 : decode b_Mo_flow 61 = .ok (.lload_n 2, 1) := by decide +kernel
theorem d_Mo_flow_62 : decode b_Mo_flow 62 = .ok (.lconst 0, 1) := by decide +kernel
theorem d_Mo_flow_63 : decode b_Mo_flow 63 = .ok (.lcmp, 1) := by decide +kernel
theorem d_Mo_flow_64 : decode b_Mo_flow 64 = .ok (.ifCond .eq 126, 3) := by decide +kernel
theorem d_Mo_flow_67 : decode b_Mo_flow 67 = .ok (.lload_n 2, 1) := by decide +kernel
theorem d_Mo_flow_68 : decode b_Mo_flow 68 = .ok (.lconst 0, 1) := by decide +kernel
theorem d_Mo_flow_69 : decode b_Mo_flow 69 = .ok (.lcmp, 1) := by decide +kernel
theorem d_Mo_flow_70 : decode b_Mo_flow 70 = .ok (.ifCond .le 12, 3) := by decide +kernel
theorem d_Mo_flow_73 : decode b_Mo_flow 73 = .ok (.aload_n 0, 1) := by decide +kernel
theorem d_Mo_flow_74 : decode b_Mo_flow 74 = .ok (.getfield 33, 3) := by decide +kernel
theorem d_Mo_flow_77 : decode b_Mo_flow 77 = .ok (.iload_n 1, 1) := by decide +kernel
theorem d_Mo_flow_78 : decode b_Mo_flow 78 = .ok (.iaload, 1) := by decide +kernel
theorem d_Mo_flow_79 : decode b_Mo_flow 79 = .ok (.goto 9, 3) := by decide +kernel
theorem d_Mo_flow_82 : decode b_Mo_flow 82 = .ok (.aload_n 0, 1) := by decide +kernel
theorem d_Mo_flow_83 : decode b_Mo_flow 83 = .ok (.getfield 36, 3) := by decide +kernel
theorem d_Mo_flow_86 : decode b_Mo_flow 86 = .ok (.iload_n 1, 1) := by decide +kernel
theorem d_Mo_flow_87 : decode b_Mo_flow 87 = .ok (.iaload, 1) := by decide +kernel
theorem d_Mo_flow_88 : decode b_Mo_flow 88 = .ok (.istore 4, 2) := by decide +kernel
theorem d_Mo_flow_90 : decode b_Mo_flow 90 = .ok (.ldc2_w 168, 3) := by decide +kernel
theorem d_Mo_flow_93 : decode b_Mo_flow 93 = .ok (.aload_n 0, 1) := by decide +kernel
theorem d_Mo_flow_94 : decode b_Mo_flow 94 = .ok (.getfield 39, 3) := by decide +kernel
theorem d_Mo_flow_97 : decode b_Mo_flow 97 = .ok (.iload_n 1, 1) := by decide +kernel
theorem d_Mo_flow_98 : decode b_Mo_flow 98 = .ok (.iaload, 1) := by decide +kernel
theorem d_Mo_flow_99 : decode b_Mo_flow 99 = .ok (.i2l, 1) := by decide +kernel
theorem d_Mo_flow_100 : decode b_Mo_flow 100 = .ok (.lmul, 1) := by decide +kernel
theorem d_Mo_flow_101 : decode b_Mo_flow 101 = .ok (.lload_n 2, 1) := by decide +kernel
theorem d_Mo_flow_102 : decode b_Mo_flow 102 = .ok (.lconst 0, 1) := by decide +kernel
theorem d_Mo_flow_103 : decode b_Mo_flow 103 = .ok (.lcmp, 1) := by decide +kernel
theorem d_Mo_flow_104 : decode b_Mo_flow 104 = .ok (.ifCond .le 7, 3) := by decide +kernel
theorem d_Mo_flow_107 : decode b_Mo_flow 107 = .ok (.lload_n 2, 1) := by decide +kernel
theorem d_Mo_flow_108 : decode b_Mo_flow 108 = .ok (.goto 5, 3) := by decide +kernel
theorem d_Mo_flow_111 : decode b_Mo_flow 111 = .ok (.lload_n 2, 1) := by decide +kernel
theorem d_Mo_flow_112 : decode b_Mo_flow 112 = .ok (.lneg, 1) := by decide +kernel
theorem d_Mo_flow_113 : decode b_Mo_flow 113 = .ok (.lmul, 1) := by decide +kernel
theorem d_Mo_flow_114 : decode b_Mo_flow 114 = .ok (.lstore 5, 2) := by decide +kernel
theorem d_Mo_flow_116 : decode b_Mo_flow 116 = .ok (.aload_n 0, 1) := by decide +kernel
theorem d_Mo_flow_117 : decode b_Mo_flow 117 = .ok (.getfield 16, 3) := by decide +kernel
theorem d_Mo_flow_120 : decode b_Mo_flow 120 = .ok (.iload 4, 2) := by decide +kernel
theorem d_Mo_flow_122 : decode b_Mo_flow 122 = .ok (.laload, 1) := by decide +kernel
theorem d_Mo_flow_123 : decode b_Mo_flow 123 = .ok (.ldc2_w 170, 3) := by decide +kernel
theorem d_Mo_flow_126 : decode b_Mo_flow 126 = .ok (.ldiv, 1) := by decide +kernel
theorem d_Mo_flow_127 : decode b_Mo_flow 127 = .ok (.lstore 7, 2) := by decide +kernel
theorem d_Mo_flow_129 : decode b_Mo_flow 129 = .ok (.lload 5, 2) := by decide +kernel
theorem d_Mo_flow_131 : decode b_Mo_flow 131 = .ok (.lload 7, 2) := by decide +kernel
theorem d_Mo_flow_133 : decode b_Mo_flow 133 = .ok (.lcmp, 1) := by decide +kernel
theorem d_Mo_flow_134 : decode b_Mo_flow 134 = .ok (.ifCond .le 8, 3) := by decide +kernel
theorem d_Mo_flow_137 : decode b_Mo_flow 137 = .ok (.lload 7, 2) := by decide +kernel
theorem d_Mo_flow_139 : decode b_Mo_flow 139 = .ok (.goto 5, 3) := by decide +kernel
theorem d_Mo_flow_142 : decode b_Mo_flow 142 = .ok (.lload 5, 2) := by decide +kernel
theorem d_Mo_flow_144 : decode b_Mo_flow 144 = .ok (.lstore 5, 2) := by decide +kernel
theorem d_Mo_flow_146 : decode b_Mo_flow 146 = .ok (.aload_n 0, 1) := by decide +kernel
theorem d_Mo_flow_147 : decode b_Mo_flow 147 = .ok (.getfield 54, 3) := by decide +kernel
theorem d_Mo_flow_150 : decode b_Mo_flow 150 = .ok (.iload_n 1, 1) := by decide +kernel
theorem d_Mo_flow_151 : decode b_Mo_flow 151 = .ok (.lload_n 2, 1) := by decide +kernel
theorem d_Mo_flow_152 : decode b_Mo_flow 152 = .ok (.lconst 0, 1) := by decide +kernel
theorem d_Mo_flow_153 : decode b_Mo_flow 153 = .ok (.lcmp, 1) := by decide +kernel
theorem d_Mo_flow_154 : decode b_Mo_flow 154 = .ok (.ifCond .le 8, 3) := by decide +kernel
theorem d_Mo_flow_157 : decode b_Mo_flow 157 = .ok (.lload 5, 2) := by decide +kernel
theorem d_Mo_flow_159 : decode b_Mo_flow 159 = .ok (.goto 6, 3) := by decide +kernel
theorem d_Mo_flow_162 : decode b_Mo_flow 162 = .ok (.lload 5, 2) := by decide +kernel
theorem d_Mo_flow_164 : decode b_Mo_flow 164 = .ok (.lneg, 1) := by decide +kernel
theorem d_Mo_flow_165 : decode b_Mo_flow 165 = .ok (.lastore, 1) := by decide +kernel
theorem d_Mo_flow_166 : decode b_Mo_flow 166 = .ok (.aload_n 0, 1) := by decide +kernel
theorem d_Mo_flow_167 : decode b_Mo_flow 167 = .ok (.getfield 57, 3) := by decide +kernel
theorem d_Mo_flow_170 : decode b_Mo_flow 170 = .ok (.iload_n 1, 1) := by decide +kernel
theorem d_Mo_flow_171 : decode b_Mo_flow 171 = .ok (.aload_n 0, 1) := by decide +kernel
theorem d_Mo_flow_172 : decode b_Mo_flow 172 = .ok (.getfield 20, 3) := by decide +kernel
theorem d_Mo_flow_175 : decode b_Mo_flow 175 = .ok (.iload 4, 2) := by decide +kernel
theorem d_Mo_flow_177 : decode b_Mo_flow 177 = .ok (.laload, 1) := by decide +kernel
theorem d_Mo_flow_178 : decode b_Mo_flow 178 = .ok (.lload 5, 2) := by decide +kernel
theorem d_Mo_flow_180 : decode b_Mo_flow 180 = .ok (.lmul, 1) := by decide +kernel
theorem d_Mo_flow_181 : decode b_Mo_flow 181 = .ok (.aload_n 0, 1) := by decide +kernel
theorem d_Mo_flow_182 : decode b_Mo_flow 182 = .ok (.getfield 16, 3) := by decide +kernel
theorem d_Mo_flow_185 : decode b_Mo_flow 185 = .ok (.iload 4, 2) := by decide +kernel
theorem d_Mo_flow_187 : decode b_Mo_flow 187 = .ok (.laload, 1) := by decide +kernel
theorem d_Mo_flow_188 : decode b_Mo_flow 188 = .ok (.ldiv, 1) := by decide +kernel
theorem d_Mo_flow_189 : decode b_Mo_flow 189 = .ok (.lastore, 1) := by decide +kernel
theorem d_Mo_flow_190 : decode b_Mo_flow 190 = .ok (.iinc 1 1, 3) := by decide +kernel
theorem d_Mo_flow_193 : decode b_Mo_flow 193 = .ok (.goto (-191), 3) := by decide +kernel
theorem d_Mo_flow_196 : decode b_Mo_flow 196 = .ok (.iconst 0, 1) := by decide +kernel
theorem d_Mo_flow_197 : decode b_Mo_flow 197 = .ok (.istore_n 1, 1) := by decide +kernel
theorem d_Mo_flow_198 : decode b_Mo_flow 198 = .ok (.iload_n 1, 1) := by decide +kernel
theorem d_Mo_flow_199 : decode b_Mo_flow 199 = .ok (.aload_n 0, 1) := by decide +kernel
theorem d_Mo_flow_200 : decode b_Mo_flow 200 = .ok (.getfield 135, 3) := by decide +kernel
theorem d_Mo_flow_203 : decode b_Mo_flow 203 = .ok (.if_icmp .ge 189, 3) := by decide +kernel
theorem d_Mo_flow_206 : decode b_Mo_flow 206 = .ok (.aload_n 0, 1) := by decide +kernel
theorem d_Mo_flow_207 : decode b_Mo_flow 207 = .ok (.getfield 54, 3) := by decide +kernel
theorem d_Mo_flow_210 : decode b_Mo_flow 210 = .ok (.iload_n 1, 1) := by decide +kernel
theorem d_Mo_flow_211 : decode b_Mo_flow 211 = .ok (.laload, 1) := by decide +kernel
theorem d_Mo_flow_212 : decode b_Mo_flow 212 = .ok (.lconst 0, 1) := by decide +kernel
theorem d_Mo_flow_213 : decode b_Mo_flow 213 = .ok (.lcmp, 1) := by decide +kernel
theorem d_Mo_flow_214 : decode b_Mo_flow 214 = .ok (.ifCond .ge 13, 3) := by decide +kernel
theorem d_Mo_flow_217 : decode b_Mo_flow 217 = .ok (.aload_n 0, 1) := by decide +kernel
theorem d_Mo_flow_218 : decode b_Mo_flow 218 = .ok (.getfield 54, 3) := by decide +kernel
theorem d_Mo_flow_221 : decode b_Mo_flow 221 = .ok (.iload_n 1, 1) := by decide +kernel
theorem d_Mo_flow_222 : decode b_Mo_flow 222 = .ok (.laload, 1) := by decide +kernel
theorem d_Mo_flow_223 : decode b_Mo_flow 223 = .ok (.lneg, 1) := by decide +kernel
theorem d_Mo_flow_224 : decode b_Mo_flow 224 = .ok (.goto 9, 3) := by decide +kernel
theorem d_Mo_flow_227 : decode b_Mo_flow 227 = .ok (.aload_n 0, 1) := by decide +kernel
theorem d_Mo_flow_228 : decode b_Mo_flow 228 = .ok (.getfield 54, 3) := by decide +kernel
theorem d_Mo_flow_231 : decode b_Mo_flow 231 = .ok (.iload_n 1, 1) := by decide +kernel
theorem d_Mo_flow_232 : decode b_Mo_flow 232 = .ok (.laload, 1) := by decide +kernel
theorem d_Mo_flow_233 : decode b_Mo_flow 233 = .ok (.lstore_n 2, 1) := by decide +kernel
theorem d_Mo_flow_234 : decode b_Mo_flow 234 = .ok (.aload_n 0, 1) := by decide +kernel
theorem d_Mo_flow_235 : decode b_Mo_flow 235 = .ok (.getfield 54, 3) := by decide +kernel
theorem d_Mo_flow_238 : decode b_Mo_flow 238 = .ok (.iload_n 1, 1) := by decide +kernel
theorem d_Mo_flow_239 : decode b_Mo_flow 239 = .ok (.laload, 1) := by decide +kernel
theorem d_Mo_flow_240 : decode b_Mo_flow 240 = .ok (.lconst 0, 1) := by decide +kernel
theorem d_Mo_flow_241 : decode b_Mo_flow 241 = .ok (.lcmp, 1) := by decide +kernel
theorem d_Mo_flow_242 : decode b_Mo_flow 242 = .ok (.ifCond .ge 12, 3) := by decide +kernel
theorem d_Mo_flow_245 : decode b_Mo_flow 245 = .ok (.aload_n 0, 1) := by decide +kernel
theorem d_Mo_flow_246 : decode b_Mo_flow 246 = .ok (.getfield 36, 3) := by decide +kernel
theorem d_Mo_flow_249 : decode b_Mo_flow 249 = .ok (.iload_n 1, 1) := by decide +kernel
theorem d_Mo_flow_250 : decode b_Mo_flow 250 = .ok (.iaload, 1) := by decide +kernel
theorem d_Mo_flow_251 : decode b_Mo_flow 251 = .ok (.goto 9, 3) := by decide +kernel
theorem d_Mo_flow_254 : decode b_Mo_flow 254 = .ok (.aload_n 0, 1) := by decide +kernel
theorem d_Mo_flow_255 : decode b_Mo_flow 255 = .ok (.getfield 33, 3) := by decide +kernel
theorem d_Mo_flow_258 : decode b_Mo_flow 258 = .ok (.iload_n 1, 1) := by decide +kernel
theorem d_Mo_flow_259 : decode b_Mo_flow 259 = .ok (.iaload, 1) := by decide +kernel
theorem d_Mo_flow_260 : decode b_Mo_flow 260 = .ok (.istore 4, 2) := by decide +kernel
theorem d_Mo_flow_262 : decode b_Mo_flow 262 = .ok (.aload_n 0, 1) := by decide +kernel
theorem d_Mo_flow_263 : decode b_Mo_flow 263 = .ok (.getfield 54, 3) := by decide +kernel
theorem d_Mo_flow_266 : decode b_Mo_flow 266 = .ok (.iload_n 1, 1) := by decide +kernel
theorem d_Mo_flow_267 : decode b_Mo_flow 267 = .ok (.laload, 1) := by decide +kernel
theorem d_Mo_flow_268 : decode b_Mo_flow 268 = .ok (.lconst 0, 1) := by decide +kernel
theorem d_Mo_flow_269 : decode b_Mo_flow 269 = .ok (.lcmp, 1) := by decide +kernel
theorem d_Mo_flow_270 : decode b_Mo_flow 270 = .ok (.ifCond .ge 12, 3) := by decide +kernel
theorem d_Mo_flow_273 : decode b_Mo_flow 273 = .ok (.aload_n 0, 1) := by decide +kernel
theorem d_Mo_flow_274 : decode b_Mo_flow 274 = .ok (.getfield 33, 3) := by decide +kernel
theorem d_Mo_flow_277 : decode b_Mo_flow 277 = .ok (.iload_n 1, 1) := by decide +kernel
theorem d_Mo_flow_278 : decode b_Mo_flow 278 = .ok (.iaload, 1) := by decide +kernel
theorem d_Mo_flow_279 : decode b_Mo_flow 279 = .ok (.goto 9, 3) := by decide +kernel
theorem d_Mo_flow_282 : decode b_Mo_flow 282 = .ok (.aload_n 0, 1) := by decide +kernel
theorem d_Mo_flow_283 : decode b_Mo_flow 283 = .ok (.getfield 36, 3) := by decide +kernel
theorem d_Mo_flow_286 : decode b_Mo_flow 286 = .ok (.iload_n 1, 1) := by decide +kernel
theorem d_Mo_flow_287 : decode b_Mo_flow 287 = .ok (.iaload, 1) := by decide +kernel
theorem d_Mo_flow_288 : decode b_Mo_flow 288 = .ok (.istore 5, 2) := by decide +kernel
theorem d_Mo_flow_290 : decode b_Mo_flow 290 = .ok (.aload_n 0, 1) := by decide +kernel
theorem d_Mo_flow_291 : decode b_Mo_flow 291 = .ok (.getfield 60, 3) := by decide +kernel
theorem d_Mo_flow_294 : decode b_Mo_flow 294 = .ok (.iload_n 1, 1) := by decide +kernel
theorem d_Mo_flow_295 : decode b_Mo_flow 295 = .ok (.dup2, 1) := by decide +kernel
theorem d_Mo_flow_296 : decode b_Mo_flow 296 = .ok (.laload, 1) := by decide +kernel
theorem d_Mo_flow_297 : decode b_Mo_flow 297 = .ok (.lload_n 2, 1) := by decide +kernel
theorem d_Mo_flow_298 : decode b_Mo_flow 298 = .ok (.ladd, 1) := by decide +kernel
theorem d_Mo_flow_299 : decode b_Mo_flow 299 = .ok (.lastore, 1) := by decide +kernel
theorem d_Mo_flow_300 : decode b_Mo_flow 300 = .ok (.lload_n 2, 1) := by decide +kernel
theorem d_Mo_flow_301 : decode b_Mo_flow 301 = .ok (.lconst 0, 1) := by decide +kernel
theorem d_Mo_flow_302 : decode b_Mo_flow 302 = .ok (.lcmp, 1) := by decide +kernel
theorem d_Mo_flow_303 : decode b_Mo_flow 303 = .ok (.ifCond .le 83, 3) := by decide +kernel
theorem d_Mo_flow_306 : decode b_Mo_flow 306 = .ok (.aload_n 0, 1) := by decide +kernel
theorem d_Mo_flow_307 : decode b_Mo_flow 307 = .ok (.getfield 16, 3) := by decide +kernel
theorem d_Mo_flow_310 : decode b_Mo_flow 310 = .ok (.iload 4, 2) := by decide +kernel
theorem d_Mo_flow_312 : decode b_Mo_flow 312 = .ok (.dup2, 1) := by decide +kernel
theorem d_Mo_flow_313 : decode b_Mo_flow 313 = .ok (.laload, 1) := by decide +kernel
theorem d_Mo_flow_314 : decode b_Mo_flow 314 = .ok (.lload_n 2, 1) := by decide +kernel
theorem d_Mo_flow_315 : decode b_Mo_flow 315 = .ok (.lsub, 1) := by decide +kernel
theorem d_Mo_flow_316 : decode b_Mo_flow 316 = .ok (.lastore, 1) := by decide +kernel
theorem d_Mo_flow_317 : decode b_Mo_flow 317 = .ok (.aload_n 0, 1) := by decide +kernel
theorem d_Mo_flow_318 : decode b_Mo_flow 318 = .ok (.getfield 20, 3) := by decide +kernel
theorem d_Mo_flow_321 : decode b_Mo_flow 321 = .ok (.iload 4, 2) := by decide +kernel
theorem d_Mo_flow_323 : decode b_Mo_flow 323 = .ok (.dup2, 1) := by decide +kernel
theorem d_Mo_flow_324 : decode b_Mo_flow 324 = .ok (.laload, 1) := by decide +kernel
theorem d_Mo_flow_325 : decode b_Mo_flow 325 = .ok (.aload_n 0, 1) := by decide +kernel
theorem d_Mo_flow_326 : decode b_Mo_flow 326 = .ok (.getfield 57, 3) := by decide +kernel
theorem d_Mo_flow_329 : decode b_Mo_flow 329 = .ok (.iload_n 1, 1) := by decide +kernel
theorem d_Mo_flow_330 : decode b_Mo_flow 330 = .ok (.laload, 1) := by decide +kernel
theorem d_Mo_flow_331 : decode b_Mo_flow 331 = .ok (.lsub, 1) := by decide +kernel
theorem d_Mo_flow_332 : decode b_Mo_flow 332 = .ok (.lastore, 1) := by decide +kernel
theorem d_Mo_flow_333 : decode b_Mo_flow 333 = .ok (.aload_n 0, 1) := by decide +kernel
theorem d_Mo_flow_334 : decode b_Mo_flow 334 = .ok (.dup, 1) := by decide +kernel
theorem d_Mo_flow_335 : decode b_Mo_flow 335 = .ok (.getfield 172, 3) := by decide +kernel
theorem d_Mo_flow_338 : decode b_Mo_flow 338 = .ok (.iload 5, 2) := by decide +kernel
theorem d_Mo_flow_340 : decode b_Mo_flow 340 = .ok (.iconst (-1), 1) := by decide +kernel
theorem d_Mo_flow_341 : decode b_Mo_flow 341 = .ok (.if_icmp .ne 7, 3) := by decide +kernel
theorem d_Mo_flow_344 : decode b_Mo_flow 344 = .ok (.lload_n 2, 1) := by decide +kernel
theorem d_Mo_flow_345 : decode b_Mo_flow 345 = .ok (.goto 4, 3) := by decide +kernel
theorem d_Mo_flow_348 : decode b_Mo_flow 348 = .ok (.lconst 0, 1) := by decide +kernel
theorem d_Mo_flow_349 : decode b_Mo_flow 349 = .ok (.ladd, 1) := by decide +kernel
theorem d_Mo_flow_350 : decode b_Mo_flow 350 = .ok (.putfield 172, 3) := by decide +kernel
theorem d_Mo_flow_353 : decode b_Mo_flow 353 = .ok (.iload 5, 2) := by decide +kernel
theorem d_Mo_flow_355 : decode b_Mo_flow 355 = .ok (.iconst (-1), 1) := by decide +kernel
theorem d_Mo_flow_356 : decode b_Mo_flow 356 = .ok (.if_icmp .eq 30, 3) := by decide +kernel
theorem d_Mo_flow_359 : decode b_Mo_flow 359 = .ok (.aload_n 0, 1) := by decide +kernel
theorem d_Mo_flow_360 : decode b_Mo_flow 360 = .ok (.getfield 16, 3) := by decide +kernel
theorem d_Mo_flow_363 : decode b_Mo_flow 363 = .ok (.iload 5, 2) := by decide +kernel
theorem d_Mo_flow_365 : decode b_Mo_flow 365 = .ok (.dup2, 1) := by decide +kernel
theorem d_Mo_flow_366 : decode b_Mo_flow 366 = .ok (.laload, 1) := by decide +kernel
theorem d_Mo_flow_367 : decode b_Mo_flow 367 = .ok (.lload_n 2, 1) := by decide +kernel
theorem d_Mo_flow_368 : decode b_Mo_flow 368 = .ok (.ladd, 1) := by decide +kernel
theorem d_Mo_flow_369 : decode b_Mo_flow 369 = .ok (.lastore, 1) := by decide +kernel
theorem d_Mo_flow_370 : decode b_Mo_flow 370 = .ok (.aload_n 0, 1) := by decide +kernel
theorem d_Mo_flow_371 : decode b_Mo_flow 371 = .ok (.getfield 20, 3) := by decide +kernel
theorem d_Mo_flow_374 : decode b_Mo_flow 374 = .ok (.iload 5, 2) := by decide +kernel
theorem d_Mo_flow_376 : decode b_Mo_flow 376 = .ok (.dup2, 1) := by decide +kernel
theorem d_Mo_flow_377 : decode b_Mo_flow 377 = .ok (.laload, 1) := by decide +kernel
theorem d_Mo_flow_378 : decode b_Mo_flow 378 = .ok (.aload_n 0, 1) := by decide +kernel
theorem d_Mo_flow_379 : decode b_Mo_flow 379 = .ok (.getfield 57, 3) := by decide +kernel
theorem d_Mo_flow_382 : decode b_Mo_flow 382 = .ok (.iload_n 1, 1) := by decide +kernel
theorem d_Mo_flow_383 : decode b_Mo_flow 383 = .ok (.laload, 1) := by decide +kernel
theorem d_Mo_flow_384 : decode b_Mo_flow 384 = .ok (.ladd, 1) := by decide +kernel
theorem d_Mo_flow_385 : decode b_Mo_flow 385 = .ok (.lastore, 1) := by decide +kernel
theorem d_Mo_flow_386 : decode b_Mo_flow 386 = .ok (.iinc 1 1, 3) := by decide +kernel
theorem d_Mo_flow_389 : decode b_Mo_flow 389 = .ok (.goto (-191), 3) := by decide +kernel
theorem d_Mo_flow_392 : decode b_Mo_flow 392 = .ok (.return_, 1) := by decide +kernel
theorem d_Mo_covered_0 : decode b_Mo_covered 0 = .ok (.iload_n 2, 1) := by decide +kernel
theorem d_Mo_covered_1 : decode b_Mo_covered 1 = .ok (.iconst (-1), 1) := by decide +kernel
theorem d_Mo_covered_2 : decode b_Mo_covered 2 = .ok (.if_icmp .ne 5, 3) := by decide +kernel
theorem d_Mo_covered_5 : decode b_Mo_covered 5 = .ok (.lconst 0, 1) := by decide +kernel
theorem d_Mo_covered_6 : decode b_Mo_covered 6 = .ok (.lreturn, 1) := by decide +kernel
theorem d_Mo_covered_7 : decode b_Mo_covered 7 = .ok (.aload_n 0, 1) := by decide +kernel
theorem d_Mo_covered_8 : decode b_Mo_covered 8 = .ok (.iload_n 2, 1) := by decide +kernel
theorem d_Mo_covered_9 : decode b_Mo_covered 9 = .ok (.invokevirtual 154, 3) := by decide +kernel
theorem d_Mo_covered_12 : decode b_Mo_covered 12 = .ok (.aload_n 0, 1) := by decide +kernel
theorem d_Mo_covered_13 : decode b_Mo_covered 13 = .ok (.getfield 42, 3) := by decide +kernel
theorem d_Mo_covered_16 : decode b_Mo_covered 16 = .ok (.iload_n 1, 1) := by decide +kernel
theorem d_Mo_covered_17 : decode b_Mo_covered 17 = .ok (.iaload, 1) := by decide +kernel
theorem d_Mo_covered_18 : decode b_Mo_covered 18 = .ok (.i2l, 1) := by decide +kernel
theorem d_Mo_covered_19 : decode b_Mo_covered 19 = .ok (.lcmp, 1) := by decide +kernel
theorem d_Mo_covered_20 : decode b_Mo_covered 20 = .ok (.ifCond .le 11, 3) := by decide +kernel
theorem d_Mo_covered_23 : decode b_Mo_covered 23 = .ok (.aload_n 0, 1) := by decide +kernel
theorem d_Mo_covered_24 : decode b_Mo_covered 24 = .ok (.iload_n 2, 1) := by decide +kernel
theorem d_Mo_covered_25 : decode b_Mo_covered 25 = .ok (.invokevirtual 154, 3) := by decide +kernel
theorem d_Mo_covered_28 : decode b_Mo_covered 28 = .ok (.goto 10, 3) := by decide +kernel
theorem d_Mo_covered_31 : decode b_Mo_covered 31 = .ok (.aload_n 0, 1) := by decide +kernel
theorem d_Mo_covered_32 : decode b_Mo_covered 32 = .ok (.getfield 42, 3) := by decide +kernel
theorem d_Mo_covered_35 : decode b_Mo_covered 35 = .ok (.iload_n 1, 1) := by decide +kernel
theorem d_Mo_covered_36 : decode b_Mo_covered 36 = .ok (.iaload, 1) := by decide +kernel
theorem d_Mo_covered_37 : decode b_Mo_covered 37 = .ok (.i2l, 1) := by decide +kernel
theorem d_Mo_covered_38 : decode b_Mo_covered 38 = .ok (.lstore_n 3, 1) := by decide +kernel
theorem d_Mo_covered_39 : decode b_Mo_covered 39 = .ok (.aload_n 0, 1) := by decide +kernel
theorem d_Mo_covered_40 : decode b_Mo_covered 40 = .ok (.getfield 45, 3) := by decide +kernel
theorem d_Mo_covered_43 : decode b_Mo_covered 43 = .ok (.iload_n 1, 1) := by decide +kernel
theorem d_Mo_covered_44 : decode b_Mo_covered 44 = .ok (.iaload, 1) := by decide +kernel
theorem d_Mo_covered_45 : decode b_Mo_covered 45 = .ok (.i2l, 1) := by decide +kernel
theorem d_Mo_covered_46 : decode b_Mo_covered 46 = .ok (.lload_n 3, 1) := by decide +kernel
theorem d_Mo_covered_47 : decode b_Mo_covered 47 = .ok (.lcmp, 1) := by decide +kernel
theorem d_Mo_covered_48 : decode b_Mo_covered 48 = .ok (.ifCond .le 15, 3) := by decide +kernel
theorem d_Mo_covered_51 : decode b_Mo_covered 51 = .ok (.aload_n 0, 1) := by decide +kernel
theorem d_Mo_covered_52 : decode b_Mo_covered 52 = .ok (.getfield 45, 3) := by decide +kernel
theorem d_Mo_covered_55 : decode b_Mo_covered 55 = .ok (.iload_n 1, 1) := by decide +kernel
theorem d_Mo_covered_56 : decode b_Mo_covered 56 = .ok (.iaload, 1) := by decide +kernel
theorem d_Mo_covered_57 : decode b_Mo_covered 57 = .ok (.i2l, 1) := by decide +kernel
theorem d_Mo_covered_58 : decode b_Mo_covered 58 = .ok (.lload_n 3, 1) := by decide +kernel
theorem d_Mo_covered_59 : decode b_Mo_covered 59 = .ok (.lsub, 1) := by decide +kernel
theorem d_Mo_covered_60 : decode b_Mo_covered 60 = .ok (.goto 4, 3) := by decide +kernel
theorem d_Mo_covered_63 : decode b_Mo_covered 63 = .ok (.lconst 0, 1) := by decide +kernel
theorem d_Mo_covered_64 : decode b_Mo_covered 64 = .ok (.lreturn, 1) := by decide +kernel
theorem d_Mo_clearTo_0 : decode b_Mo_clearTo 0 = .ok (.aload_n 0, 1) := by decide +kernel
theorem d_Mo_clearTo_1 : decode b_Mo_clearTo 1 = .ok (.getfield 13, 3) := by decide +kernel
theorem d_Mo_clearTo_4 : decode b_Mo_clearTo 4 = .ok (.iload_n 1, 1) := by decide +kernel
theorem d_Mo_clearTo_5 : decode b_Mo_clearTo 5 = .ok (.iaload, 1) := by decide +kernel
theorem d_Mo_clearTo_6 : decode b_Mo_clearTo 6 = .ok (.i2l, 1) := by decide +kernel
theorem d_Mo_clearTo_7 : decode b_Mo_clearTo 7 = .ok (.aload_n 0, 1) := by decide +kernel
theorem d_Mo_clearTo_8 : decode b_Mo_clearTo 8 = .ok (.getfield 16, 3) := by decide +kernel
theorem d_Mo_clearTo_11 : decode b_Mo_clearTo 11 = .ok (.iload_n 1, 1) := by decide +kernel
theorem d_Mo_clearTo_12 : decode b_Mo_clearTo 12 = .ok (.laload, 1) := by decide +kernel
theorem d_Mo_clearTo_13 : decode b_Mo_clearTo 13 = .ok (.aload_n 0, 1) := by decide +kernel
theorem d_Mo_clearTo_14 : decode b_Mo_clearTo 14 = .ok (.getfield 7, 3) := by decide +kernel
theorem d_Mo_clearTo_17 : decode b_Mo_clearTo 17 = .ok (.iload_n 1, 1) := by decide +kernel
theorem d_Mo_clearTo_18 : decode b_Mo_clearTo 18 = .ok (.iaload, 1) := by decide +kernel
theorem d_Mo_clearTo_19 : decode b_Mo_clearTo 19 = .ok (.i2l, 1) := by decide +kernel
theorem d_Mo_clearTo_20 : decode b_Mo_clearTo 20 = .ok (.ldiv, 1) := by decide +kernel
theorem d_Mo_clearTo_21 : decode b_Mo_clearTo 21 = .ok (.lsub, 1) := by decide +kernel
theorem d_Mo_clearTo_22 : decode b_Mo_clearTo 22 = .ok (.lreturn, 1) := by decide +kernel
theorem d_Mo_blow_0 : decode b_Mo_blow 0 = .ok (.iconst 0, 1) := by decide +kernel
theorem d_Mo_blow_1 : decode b_Mo_blow 1 = .ok (.istore_n 1, 1) := by decide +kernel
theorem d_Mo_blow_2 : decode b_Mo_blow 2 = .ok (.iload_n 1, 1) := by decide +kernel
theorem d_Mo_blow_3 : decode b_Mo_blow 3 = .ok (.aload_n 0, 1) := by decide +kernel
theorem d_Mo_blow_4 : decode b_Mo_blow 4 = .ok (.getfield 145, 3) := by decide +kernel
theorem d_Mo_blow_7 : decode b_Mo_blow 7 = .ok (.if_icmp .ge 118, 3) := by decide +kernel
theorem d_Mo_blow_10 : decode b_Mo_blow 10 = .ok (.aload_n 0, 1) := by decide +kernel
theorem d_Mo_blow_11 : decode b_Mo_blow 11 = .ok (.getfield 78, 3) := by decide +kernel
theorem d_Mo_blow_14 : decode b_Mo_blow 14 = .ok (.iload_n 1, 1) := by decide +kernel
theorem d_Mo_blow_15 : decode b_Mo_blow 15 = .ok (.iaload, 1) := by decide +kernel
theorem d_Mo_blow_16 : decode b_Mo_blow 16 = .ok (.istore_n 2, 1) := by decide +kernel
theorem d_Mo_blow_17 : decode b_Mo_blow 17 = .ok (.aload_n 0, 1) := by decide +kernel
theorem d_Mo_blow_18 : decode b_Mo_blow 18 = .ok (.getfield 81, 3) := by decide +kernel
theorem d_Mo_blow_21 : decode b_Mo_blow 21 = .ok (.iload_n 1, 1) := by decide +kernel
theorem d_Mo_blow_22 : decode b_Mo_blow 22 = .ok (.iaload, 1) := by decide +kernel
theorem d_Mo_blow_23 : decode b_Mo_blow 23 = .ok (.aload_n 0, 1) := by decide +kernel
theorem d_Mo_blow_24 : decode b_Mo_blow 24 = .ok (.getfield 138, 3) := by decide +kernel
theorem d_Mo_blow_27 : decode b_Mo_blow 27 = .ok (.if_icmp .gt 92, 3) := by decide +kernel
theorem d_Mo_blow_30 : decode b_Mo_blow 30 = .ok (.aload_n 0, 1) := by decide +kernel
theorem d_Mo_blow_31 : decode b_Mo_blow 31 = .ok (.getfield 16, 3) := by decide +kernel
theorem d_Mo_blow_34 : decode b_Mo_blow 34 = .ok (.iload_n 2, 1) := by decide +kernel
theorem d_Mo_blow_35 : decode b_Mo_blow 35 = .ok (.laload, 1) := by decide +kernel
theorem d_Mo_blow_36 : decode b_Mo_blow 36 = .ok (.lconst 0, 1) := by decide +kernel
theorem d_Mo_blow_37 : decode b_Mo_blow 37 = .ok (.lcmp, 1) := by decide +kernel
theorem d_Mo_blow_38 : decode b_Mo_blow 38 = .ok (.ifCond .le 81, 3) := by decide +kernel
theorem d_Mo_blow_41 : decode b_Mo_blow 41 = .ok (.aload_n 0, 1) := by decide +kernel
theorem d_Mo_blow_42 : decode b_Mo_blow 42 = .ok (.getfield 84, 3) := by decide +kernel
theorem d_Mo_blow_45 : decode b_Mo_blow 45 = .ok (.iload_n 1, 1) := by decide +kernel
theorem d_Mo_blow_46 : decode b_Mo_blow 46 = .ok (.iaload, 1) := by decide +kernel
theorem d_Mo_blow_47 : decode b_Mo_blow 47 = .ok (.i2l, 1) := by decide +kernel
theorem d_Mo_blow_48 : decode b_Mo_blow 48 = .ok (.aload_n 0, 1) := by decide +kernel
theorem d_Mo_blow_49 : decode b_Mo_blow 49 = .ok (.getfield 16, 3) := by decide +kernel
theorem d_Mo_blow_52 : decode b_Mo_blow 52 = .ok (.iload_n 2, 1) := by decide +kernel
theorem d_Mo_blow_53 : decode b_Mo_blow 53 = .ok (.laload, 1) := by decide +kernel
theorem d_Mo_blow_54 : decode b_Mo_blow 54 = .ok (.lcmp, 1) := by decide +kernel
theorem d_Mo_blow_55 : decode b_Mo_blow 55 = .ok (.ifCond .le 12, 3) := by decide +kernel
theorem d_Mo_blow_58 : decode b_Mo_blow 58 = .ok (.aload_n 0, 1) := by decide +kernel
theorem d_Mo_blow_59 : decode b_Mo_blow 59 = .ok (.getfield 16, 3) := by decide +kernel
theorem d_Mo_blow_62 : decode b_Mo_blow 62 = .ok (.iload_n 2, 1) := by decide +kernel
theorem d_Mo_blow_63 : decode b_Mo_blow 63 = .ok (.laload, 1) := by decide +kernel
theorem d_Mo_blow_64 : decode b_Mo_blow 64 = .ok (.goto 10, 3) := by decide +kernel
theorem d_Mo_blow_67 : decode b_Mo_blow 67 = .ok (.aload_n 0, 1) := by decide +kernel
theorem d_Mo_blow_68 : decode b_Mo_blow 68 = .ok (.getfield 84, 3) := by decide +kernel
theorem d_Mo_blow_71 : decode b_Mo_blow 71 = .ok (.iload_n 1, 1) := by decide +kernel
theorem d_Mo_blow_72 : decode b_Mo_blow 72 = .ok (.iaload, 1) := by decide +kernel
theorem d_Mo_blow_73 : decode b_Mo_blow 73 = .ok (.i2l, 1) := by decide +kernel
theorem d_Mo_blow_74 : decode b_Mo_blow 74 = .ok (.lstore_n 3, 1) := by decide +kernel
theorem d_Mo_blow_75 : decode b_Mo_blow 75 = .ok (.aload_n 0, 1) := by decide +kernel
theorem d_Mo_blow_76 : decode b_Mo_blow 76 = .ok (.getfield 20, 3) := by decide +kernel
theorem d_Mo_blow_79 : decode b_Mo_blow 79 = .ok (.iload_n 2, 1) := by decide +kernel
theorem d_Mo_blow_80 : decode b_Mo_blow 80 = .ok (.dup2, 1) := by decide +kernel
theorem d_Mo_blow_81 : decode b_Mo_blow 81 = .ok (.laload, 1) := by decide +kernel
theorem d_Mo_blow_82 : decode b_Mo_blow 82 = .ok (.aload_n 0, 1) := by decide +kernel
theorem d_Mo_blow_83 : decode b_Mo_blow 83 = .ok (.getfield 20, 3) := by decide +kernel
theorem d_Mo_blow_86 : decode b_Mo_blow 86 = .ok (.iload_n 2, 1) := by decide +kernel
theorem d_Mo_blow_87 : decode b_Mo_blow 87 = .ok (.laload, 1) := by decide +kernel
theorem d_Mo_blow_88 : decode b_Mo_blow 88 = .ok (.lload_n 3, 1) := by decide +kernel
theorem d_Mo_blow_89 : decode b_Mo_blow 89 = .ok (.lmul, 1) := by decide +kernel
theorem d_Mo_blow_90 : decode b_Mo_blow 90 = .ok (.aload_n 0, 1) := by decide +kernel
theorem d_Mo_blow_91 : decode b_Mo_blow 91 = .ok (.getfield 16, 3) := by decide +kernel
theorem d_Mo_blow_94 : decode b_Mo_blow 94 = .ok (.iload_n 2, 1) := by decide +kernel
theorem d_Mo_blow_95 : decode b_Mo_blow 95 = .ok (.laload, 1) := by decide +kernel
theorem d_Mo_blow_96 : decode b_Mo_blow 96 = .ok (.ldiv, 1) := by decide +kernel
theorem d_Mo_blow_97 : decode b_Mo_blow 97 = .ok (.lsub, 1) := by decide +kernel
theorem d_Mo_blow_98 : decode b_Mo_blow 98 = .ok (.lastore, 1) := by decide +kernel
theorem d_Mo_blow_99 : decode b_Mo_blow 99 = .ok (.aload_n 0, 1) := by decide +kernel
theorem d_Mo_blow_100 : decode b_Mo_blow 100 = .ok (.getfield 16, 3) := by decide +kernel
theorem d_Mo_blow_103 : decode b_Mo_blow 103 = .ok (.iload_n 2, 1) := by decide +kernel
theorem d_Mo_blow_104 : decode b_Mo_blow 104 = .ok (.dup2, 1) := by decide +kernel
theorem d_Mo_blow_105 : decode b_Mo_blow 105 = .ok (.laload, 1) := by decide +kernel
theorem d_Mo_blow_106 : decode b_Mo_blow 106 = .ok (.lload_n 3, 1) := by decide +kernel
theorem d_Mo_blow_107 : decode b_Mo_blow 107 = .ok (.lsub, 1) := by decide +kernel
theorem d_Mo_blow_108 : decode b_Mo_blow 108 = .ok (.lastore, 1) := by decide +kernel
theorem d_Mo_blow_109 : decode b_Mo_blow 109 = .ok (.aload_n 0, 1) := by decide +kernel
theorem d_Mo_blow_110 : decode b_Mo_blow 110 = .ok (.dup, 1) := by decide +kernel
theorem d_Mo_blow_111 : decode b_Mo_blow 111 = .ok (.getfield 175, 3) := by decide +kernel
theorem d_Mo_blow_114 : decode b_Mo_blow 114 = .ok (.lload_n 3, 1) := by decide +kernel
theorem d_Mo_blow_115 : decode b_Mo_blow 115 = .ok (.ladd, 1) := by decide +kernel
theorem d_Mo_blow_116 : decode b_Mo_blow 116 = .ok (.putfield 175, 3) := by decide +kernel
theorem d_Mo_blow_119 : decode b_Mo_blow 119 = .ok (.iinc 1 1, 3) := by decide +kernel
theorem d_Mo_blow_122 : decode b_Mo_blow 122 = .ok (.goto (-120), 3) := by decide +kernel
theorem d_Mo_blow_125 : decode b_Mo_blow 125 = .ok (.return_, 1) := by decide +kernel
theorem d_Mo_press_0 : decode b_Mo_press 0 = .ok (.iconst 0, 1) := by decide +kernel
theorem d_Mo_press_1 : decode b_Mo_press 1 = .ok (.istore_n 1, 1) := by decide +kernel
theorem d_Mo_press_2 : decode b_Mo_press 2 = .ok (.iload_n 1, 1) := by decide +kernel
theorem d_Mo_press_3 : decode b_Mo_press 3 = .ok (.aload_n 0, 1) := by decide +kernel
theorem d_Mo_press_4 : decode b_Mo_press 4 = .ok (.getfield 121, 3) := by decide +kernel
theorem d_Mo_press_7 : decode b_Mo_press 7 = .ok (.if_icmp .ge 81, 3) := by decide +kernel
theorem d_Mo_press_10 : decode b_Mo_press 10 = .ok (.aload_n 0, 1) := by decide +kernel
theorem d_Mo_press_11 : decode b_Mo_press 11 = .ok (.getfield 7, 3) := by decide +kernel
theorem d_Mo_press_14 : decode b_Mo_press 14 = .ok (.iload_n 1, 1) := by decide +kernel
theorem d_Mo_press_15 : decode b_Mo_press 15 = .ok (.iaload, 1) := by decide +kernel
theorem d_Mo_press_16 : decode b_Mo_press 16 = .ok (.i2l, 1) := by decide +kernel
theorem d_Mo_press_17 : decode b_Mo_press 17 = .ok (.aload_n 0, 1) := by decide +kernel
theorem d_Mo_press_18 : decode b_Mo_press 18 = .ok (.getfield 13, 3) := by decide +kernel
theorem d_Mo_press_21 : decode b_Mo_press 21 = .ok (.iload_n 1, 1) := by decide +kernel
theorem d_Mo_press_22 : decode b_Mo_press 22 = .ok (.iaload, 1) := by decide +kernel
theorem d_Mo_press_23 : decode b_Mo_press 23 = .ok (.i2l, 1) := by decide +kernel
theorem d_Mo_press_24 : decode b_Mo_press 24 = .ok (.lmul, 1) := by decide +kernel
theorem d_Mo_press_25 : decode b_Mo_press 25 = .ok (.lstore_n 2, 1) := by decide +kernel
theorem d_Mo_press_26 : decode b_Mo_press 26 = .ok (.aload_n 0, 1) := by decide +kernel
theorem d_Mo_press_27 : decode b_Mo_press 27 = .ok (.getfield 16, 3) := by decide +kernel
theorem d_Mo_press_30 : decode b_Mo_press 30 = .ok (.iload_n 1, 1) := by decide +kernel
theorem d_Mo_press_31 : decode b_Mo_press 31 = .ok (.laload, 1) := by decide +kernel
theorem d_Mo_press_32 : decode b_Mo_press 32 = .ok (.lload_n 2, 1) := by decide +kernel
theorem d_Mo_press_33 : decode b_Mo_press 33 = .ok (.lcmp, 1) := by decide +kernel
theorem d_Mo_press_34 : decode b_Mo_press 34 = .ok (.ifCond .le 48, 3) := by decide +kernel
theorem d_Mo_press_37 : decode b_Mo_press 37 = .ok (.aload_n 0, 1) := by decide +kernel
theorem d_Mo_press_38 : decode b_Mo_press 38 = .ok (.getfield 20, 3) := by decide +kernel
theorem d_Mo_press_41 : decode b_Mo_press 41 = .ok (.iload_n 1, 1) := by decide +kernel
theorem d_Mo_press_42 : decode b_Mo_press 42 = .ok (.aload_n 0, 1) := by decide +kernel
theorem d_Mo_press_43 : decode b_Mo_press 43 = .ok (.getfield 20, 3) := by decide +kernel
theorem d_Mo_press_46 : decode b_Mo_press 46 = .ok (.iload_n 1, 1) := by decide +kernel
theorem d_Mo_press_47 : decode b_Mo_press 47 = .ok (.laload, 1) := by decide +kernel
theorem d_Mo_press_48 : decode b_Mo_press 48 = .ok (.lload_n 2, 1) := by decide +kernel
theorem d_Mo_press_49 : decode b_Mo_press 49 = .ok (.lmul, 1) := by decide +kernel
theorem d_Mo_press_50 : decode b_Mo_press 50 = .ok (.aload_n 0, 1) := by decide +kernel
theorem d_Mo_press_51 : decode b_Mo_press 51 = .ok (.getfield 16, 3) := by decide +kernel
theorem d_Mo_press_54 : decode b_Mo_press 54 = .ok (.iload_n 1, 1) := by decide +kernel
theorem d_Mo_press_55 : decode b_Mo_press 55 = .ok (.laload, 1) := by decide +kernel
theorem d_Mo_press_56 : decode b_Mo_press 56 = .ok (.ldiv, 1) := by decide +kernel
theorem d_Mo_press_57 : decode b_Mo_press 57 = .ok (.lastore, 1) := by decide +kernel
theorem d_Mo_press_58 : decode b_Mo_press 58 = .ok (.aload_n 0, 1) := by decide +kernel
theorem d_Mo_press_59 : decode b_Mo_press 59 = .ok (.dup, 1) := by decide +kernel
theorem d_Mo_press_60 : decode b_Mo_press 60 = .ok (.getfield 178, 3) := by decide +kernel
theorem d_Mo_press_63 : decode b_Mo_press 63 = .ok (.aload_n 0, 1) := by decide +kernel
theorem d_Mo_press_64 : decode b_Mo_press 64 = .ok (.getfield 16, 3) := by decide +kernel
theorem d_Mo_press_67 : decode b_Mo_press 67 = .ok (.iload_n 1, 1) := by decide +kernel
theorem d_Mo_press_68 : decode b_Mo_press 68 = .ok (.laload, 1) := by decide +kernel
theorem d_Mo_press_69 : decode b_Mo_press 69 = .ok (.lload_n 2, 1) := by decide +kernel
theorem d_Mo_press_70 : decode b_Mo_press 70 = .ok (.lsub, 1) := by decide +kernel
theorem d_Mo_press_71 : decode b_Mo_press 71 = .ok (.ladd, 1) := by decide +kernel
theorem d_Mo_press_72 : decode b_Mo_press 72 = .ok (.putfield 178, 3) := by decide +kernel
theorem d_Mo_press_75 : decode b_Mo_press 75 = .ok (.aload_n 0, 1) := by decide +kernel
theorem d_Mo_press_76 : decode b_Mo_press 76 = .ok (.getfield 16, 3) := by decide +kernel
theorem d_Mo_press_79 : decode b_Mo_press 79 = .ok (.iload_n 1, 1) := by decide +kernel
theorem d_Mo_press_80 : decode b_Mo_press 80 = .ok (.lload_n 2, 1) := by decide +kernel
theorem d_Mo_press_81 : decode b_Mo_press 81 = .ok (.lastore, 1) := by decide +kernel
theorem d_Mo_press_82 : decode b_Mo_press 82 = .ok (.iinc 1 1, 3) := by decide +kernel
theorem d_Mo_press_85 : decode b_Mo_press 85 = .ok (.goto (-83), 3) := by decide +kernel
theorem d_Mo_press_88 : decode b_Mo_press 88 = .ok (.return_, 1) := by decide +kernel
theorem d_Mo_act_0 : decode b_Mo_act 0 = .ok (.iconst 0, 1) := by decide +kernel
theorem d_Mo_act_1 : decode b_Mo_act 1 = .ok (.istore_n 1, 1) := by decide +kernel
theorem d_Mo_act_2 : decode b_Mo_act 2 = .ok (.iload_n 1, 1) := by decide +kernel
theorem d_Mo_act_3 : decode b_Mo_act 3 = .ok (.aload_n 0, 1) := by decide +kernel
theorem d_Mo_act_4 : decode b_Mo_act 4 = .ok (.getfield 121, 3) := by decide +kernel
theorem d_Mo_act_7 : decode b_Mo_act 7 = .ok (.if_icmp .ge 84, 3) := by decide +kernel
theorem d_Mo_act_10 : decode b_Mo_act 10 = .ok (.aload_n 0, 1) := by decide +kernel
theorem d_Mo_act_11 : decode b_Mo_act 11 = .ok (.getfield 26, 3) := by decide +kernel
theorem d_Mo_act_14 : decode b_Mo_act 14 = .ok (.iload_n 1, 1) := by decide +kernel
theorem d_Mo_act_15 : decode b_Mo_act 15 = .ok (.aload_n 0, 1) := by decide +kernel
theorem d_Mo_act_16 : decode b_Mo_act 16 = .ok (.getfield 26, 3) := by decide +kernel
theorem d_Mo_act_19 : decode b_Mo_act 19 = .ok (.iload_n 1, 1) := by decide +kernel
theorem d_Mo_act_20 : decode b_Mo_act 20 = .ok (.baload, 1) := by decide +kernel
theorem d_Mo_act_21 : decode b_Mo_act 21 = .ok (.ifCond .ne 17, 3) := by decide +kernel
theorem d_Mo_act_24 : decode b_Mo_act 24 = .ok (.aload_n 0, 1) := by decide +kernel
theorem d_Mo_act_25 : decode b_Mo_act 25 = .ok (.iload_n 1, 1) := by decide +kernel
theorem d_Mo_act_26 : decode b_Mo_act 26 = .ok (.aload_n 0, 1) := by decide +kernel
theorem d_Mo_act_27 : decode b_Mo_act 27 = .ok (.getfield 23, 3) := by decide +kernel
theorem d_Mo_act_30 : decode b_Mo_act 30 = .ok (.iload_n 1, 1) := by decide +kernel
theorem d_Mo_act_31 : decode b_Mo_act 31 = .ok (.iaload, 1) := by decide +kernel
theorem d_Mo_act_32 : decode b_Mo_act 32 = .ok (.invokevirtual 184, 3) := by decide +kernel
theorem d_Mo_act_35 : decode b_Mo_act 35 = .ok (.ifCond .eq 7, 3) := by decide +kernel
theorem d_Mo_act_38 : decode b_Mo_act 38 = .ok (.iconst 1, 1) := by decide +kernel
theorem d_Mo_act_39 : decode b_Mo_act 39 = .ok (.goto 4, 3) := by decide +kernel
theorem d_Mo_act_42 : decode b_Mo_act 42 = .ok (.iconst 0, 1) := by decide +kernel
theorem d_Mo_act_43 : decode b_Mo_act 43 = .ok (.bastore, 1) := by decide +kernel
theorem d_Mo_act_44 : decode b_Mo_act 44 = .ok (.aload_n 0, 1) := by decide +kernel
theorem d_Mo_act_45 : decode b_Mo_act 45 = .ok (.getfield 30, 3) := by decide +kernel
theorem d_Mo_act_48 : decode b_Mo_act 48 = .ok (.iload_n 1, 1) := by decide +kernel
theorem d_Mo_act_49 : decode b_Mo_act 49 = .ok (.aload_n 0, 1) := by decide +kernel
theorem d_Mo_act_50 : decode b_Mo_act 50 = .ok (.getfield 30, 3) := by decide +kernel
theorem d_Mo_act_53 : decode b_Mo_act 53 = .ok (.iload_n 1, 1) := by decide +kernel
theorem d_Mo_act_54 : decode b_Mo_act 54 = .ok (.iaload, 1) := by decide +kernel
theorem d_Mo_act_55 : decode b_Mo_act 55 = .ok (.iconst (-1), 1) := by decide +kernel
theorem d_Mo_act_56 : decode b_Mo_act 56 = .ok (.if_icmp .ne 22, 3) := by decide +kernel
theorem d_Mo_act_59 : decode b_Mo_act 59 = .ok (.aload_n 0, 1) := by decide +kernel
theorem d_Mo_act_60 : decode b_Mo_act 60 = .ok (.iload_n 1, 1) := by decide +kernel
theorem d_Mo_act_61 : decode b_Mo_act 61 = .ok (.invokevirtual 154, 3) := by decide +kernel
theorem d_Mo_act_64 : decode b_Mo_act 64 = .ok (.ldc2_w 188, 3) := by decide +kernel
theorem d_Mo_act_67 : decode b_Mo_act 67 = .ok (.lcmp, 1) := by decide +kernel
theorem d_Mo_act_68 : decode b_Mo_act 68 = .ok (.ifCond .ge 10, 3) := by decide +kernel
theorem d_Mo_act_71 : decode b_Mo_act 71 = .ok (.aload_n 0, 1) := by decide +kernel
theorem d_Mo_act_72 : decode b_Mo_act 72 = .ok (.getfield 138, 3) := by decide +kernel
theorem d_Mo_act_75 : decode b_Mo_act 75 = .ok (.goto 9, 3) := by decide +kernel
theorem d_Mo_act_78 : decode b_Mo_act 78 = .ok (.aload_n 0, 1) := by decide +kernel
theorem d_Mo_act_79 : decode b_Mo_act 79 = .ok (.getfield 30, 3) := by decide +kernel
theorem d_Mo_act_82 : decode b_Mo_act 82 = .ok (.iload_n 1, 1) := by decide +kernel
theorem d_Mo_act_83 : decode b_Mo_act 83 = .ok (.iaload, 1) := by decide +kernel
theorem d_Mo_act_84 : decode b_Mo_act 84 = .ok (.iastore, 1) := by decide +kernel
theorem d_Mo_act_85 : decode b_Mo_act 85 = .ok (.iinc 1 1, 3) := by decide +kernel
theorem d_Mo_act_88 : decode b_Mo_act 88 = .ok (.goto (-86), 3) := by decide +kernel
theorem d_Mo_act_91 : decode b_Mo_act 91 = .ok (.iconst 0, 1) := by decide +kernel
theorem d_Mo_act_92 : decode b_Mo_act 92 = .ok (.istore_n 1, 1) := by decide +kernel
theorem d_Mo_act_93 : decode b_Mo_act 93 = .ok (.iload_n 1, 1) := by decide +kernel
theorem d_Mo_act_94 : decode b_Mo_act 94 = .ok (.aload_n 0, 1) := by decide +kernel
theorem d_Mo_act_95 : decode b_Mo_act 95 = .ok (.getfield 135, 3) := by decide +kernel
theorem d_Mo_act_98 : decode b_Mo_act 98 = .ok (.if_icmp .ge 67, 3) := by decide +kernel
theorem d_Mo_act_101 : decode b_Mo_act 101 = .ok (.aload_n 0, 1) := by decide +kernel
theorem d_Mo_act_102 : decode b_Mo_act 102 = .ok (.getfield 51, 3) := by decide +kernel
theorem d_Mo_act_105 : decode b_Mo_act 105 = .ok (.iload_n 1, 1) := by decide +kernel
theorem d_Mo_act_106 : decode b_Mo_act 106 = .ok (.aload_n 0, 1) := by decide +kernel
theorem d_Mo_act_107 : decode b_Mo_act 107 = .ok (.getfield 51, 3) := by decide +kernel
theorem d_Mo_act_110 : decode b_Mo_act 110 = .ok (.iload_n 1, 1) := by decide +kernel
theorem d_Mo_act_111 : decode b_Mo_act 111 = .ok (.baload, 1) := by decide +kernel
theorem d_Mo_act_112 : decode b_Mo_act 112 = .ok (.ifCond .ne 41, 3) := by decide +kernel
theorem d_Mo_act_115 : decode b_Mo_act 115 = .ok (.aload_n 0, 1) := by decide +kernel
theorem d_Mo_act_116 : decode b_Mo_act 116 = .ok (.aload_n 0, 1) := by decide +kernel
theorem d_Mo_act_117 : decode b_Mo_act 117 = .ok (.getfield 33, 3) := by decide +kernel
theorem d_Mo_act_120 : decode b_Mo_act 120 = .ok (.iload_n 1, 1) := by decide +kernel
theorem d_Mo_act_121 : decode b_Mo_act 121 = .ok (.iaload, 1) := by decide +kernel
theorem d_Mo_act_122 : decode b_Mo_act 122 = .ok (.aload_n 0, 1) := by decide +kernel
theorem d_Mo_act_123 : decode b_Mo_act 123 = .ok (.getfield 48, 3) := by decide +kernel
theorem d_Mo_act_126 : decode b_Mo_act 126 = .ok (.iload_n 1, 1) := by decide +kernel
theorem d_Mo_act_127 : decode b_Mo_act 127 = .ok (.iaload, 1) := by decide +kernel
theorem d_Mo_act_128 : decode b_Mo_act 128 = .ok (.invokevirtual 184, 3) := by decide +kernel
theorem d_Mo_act_131 : decode b_Mo_act 131 = .ok (.ifCond .ne 22, 3) := by decide +kernel
theorem d_Mo_act_134 : decode b_Mo_act 134 = .ok (.aload_n 0, 1) := by decide +kernel
theorem d_Mo_act_135 : decode b_Mo_act 135 = .ok (.aload_n 0, 1) := by decide +kernel
theorem d_Mo_act_136 : decode b_Mo_act 136 = .ok (.getfield 36, 3) := by decide +kernel
theorem d_Mo_act_139 : decode b_Mo_act 139 = .ok (.iload_n 1, 1) := by decide +kernel
theorem d_Mo_act_140 : decode b_Mo_act 140 = .ok (.iaload, 1) := by decide +kernel
theorem d_Mo_act_141 : decode b_Mo_act 141 = .ok (.aload_n 0, 1) := by decide +kernel
theorem d_Mo_act_142 : decode b_Mo_act 142 = .ok (.getfield 48, 3) := by decide +kernel
theorem d_Mo_act_145 : decode b_Mo_act 145 = .ok (.iload_n 1, 1) := by decide +kernel
theorem d_Mo_act_146 : decode b_Mo_act 146 = .ok (.iaload, 1) := by decide +kernel
theorem d_Mo_act_147 : decode b_Mo_act 147 = .ok (.invokevirtual 184, 3) := by decide +kernel
theorem d_Mo_act_150 : decode b_Mo_act 150 = .ok (.ifCond .eq 7, 3) := by decide +kernel
theorem d_Mo_act_153 : decode b_Mo_act 153 = .ok (.iconst 1, 1) := by decide +kernel
theorem d_Mo_act_154 : decode b_Mo_act 154 = .ok (.goto 4, 3) := by decide +kernel
theorem d_Mo_act_157 : decode b_Mo_act 157 = .ok (.iconst 0, 1) := by decide +kernel
theorem d_Mo_act_158 : decode b_Mo_act 158 = .ok (.bastore, 1) := by decide +kernel
theorem d_Mo_act_159 : decode b_Mo_act 159 = .ok (.iinc 1 1, 3) := by decide +kernel
theorem d_Mo_act_162 : decode b_Mo_act 162 = .ok (.goto (-69), 3) := by decide +kernel
theorem d_Mo_act_165 : decode b_Mo_act 165 = .ok (.iconst 0, 1) := by decide +kernel
theorem d_Mo_act_166 : decode b_Mo_act 166 = .ok (.istore_n 1, 1) := by decide +kernel
theorem d_Mo_act_167 : decode b_Mo_act 167 = .ok (.iload_n 1, 1) := by decide +kernel
theorem d_Mo_act_168 : decode b_Mo_act 168 = .ok (.aload_n 0, 1) := by decide +kernel
theorem d_Mo_act_169 : decode b_Mo_act 169 = .ok (.getfield 148, 3) := by decide +kernel
theorem d_Mo_act_172 : decode b_Mo_act 172 = .ok (.if_icmp .ge 43, 3) := by decide +kernel
theorem d_Mo_act_175 : decode b_Mo_act 175 = .ok (.aload_n 0, 1) := by decide +kernel
theorem d_Mo_act_176 : decode b_Mo_act 176 = .ok (.getfield 93, 3) := by decide +kernel
theorem d_Mo_act_179 : decode b_Mo_act 179 = .ok (.iload_n 1, 1) := by decide +kernel
theorem d_Mo_act_180 : decode b_Mo_act 180 = .ok (.dup2, 1) := by decide +kernel
theorem d_Mo_act_181 : decode b_Mo_act 181 = .ok (.laload, 1) := by decide +kernel
theorem d_Mo_act_182 : decode b_Mo_act 182 = .ok (.aload_n 0, 1) := by decide +kernel
theorem d_Mo_act_183 : decode b_Mo_act 183 = .ok (.aload_n 0, 1) := by decide +kernel
theorem d_Mo_act_184 : decode b_Mo_act 184 = .ok (.getfield 87, 3) := by decide +kernel
theorem d_Mo_act_187 : decode b_Mo_act 187 = .ok (.iload_n 1, 1) := by decide +kernel
theorem d_Mo_act_188 : decode b_Mo_act 188 = .ok (.iaload, 1) := by decide +kernel
theorem d_Mo_act_189 : decode b_Mo_act 189 = .ok (.invokevirtual 181, 3) := by decide +kernel
theorem d_Mo_act_192 : decode b_Mo_act 192 = .ok (.aload_n 0, 1) := by decide +kernel
theorem d_Mo_act_193 : decode b_Mo_act 193 = .ok (.getfield 93, 3) := by decide +kernel
theorem d_Mo_act_196 : decode b_Mo_act 196 = .ok (.iload_n 1, 1) := by decide +kernel
theorem d_Mo_act_197 : decode b_Mo_act 197 = .ok (.laload, 1) := by decide +kernel
theorem d_Mo_act_198 : decode b_Mo_act 198 = .ok (.lsub, 1) := by decide +kernel
theorem d_Mo_act_199 : decode b_Mo_act 199 = .ok (.aload_n 0, 1) := by decide +kernel
theorem d_Mo_act_200 : decode b_Mo_act 200 = .ok (.getfield 90, 3) := by decide +kernel
theorem d_Mo_act_203 : decode b_Mo_act 203 = .ok (.iload_n 1, 1) := by decide +kernel
theorem d_Mo_act_204 : decode b_Mo_act 204 = .ok (.iaload, 1) := by decide +kernel
theorem d_Mo_act_205 : decode b_Mo_act 205 = .ok (.i2l, 1) := by decide +kernel
theorem d_Mo_act_206 : decode b_Mo_act 206 = .ok (.ldiv, 1) := by decide +kernel
theorem d_Mo_act_207 : decode b_Mo_act 207 = .ok (.ladd, 1) := by decide +kernel
theorem d_Mo_act_208 : decode b_Mo_act 208 = .ok (.lastore, 1) := by decide +kernel
theorem d_Mo_act_209 : decode b_Mo_act 209 = .ok (.iinc 1 1, 3) := by decide +kernel
theorem d_Mo_act_212 : decode b_Mo_act 212 = .ok (.goto (-45), 3) := by decide +kernel
theorem d_Mo_act_215 : decode b_Mo_act 215 = .ok (.return_, 1) := by decide +kernel
theorem d_Mo_isHot_0 : decode b_Mo_isHot 0 = .ok (.iload_n 1, 1) := by decide +kernel
theorem d_Mo_isHot_1 : decode b_Mo_isHot 1 = .ok (.iconst (-1), 1) := by decide +kernel
theorem d_Mo_isHot_2 : decode b_Mo_isHot 2 = .ok (.if_icmp .eq 22, 3) := by decide +kernel
theorem d_Mo_isHot_5 : decode b_Mo_isHot 5 = .ok (.iload_n 2, 1) := by decide +kernel
theorem d_Mo_isHot_6 : decode b_Mo_isHot 6 = .ok (.ifCond .le 18, 3) := by decide +kernel
theorem d_Mo_isHot_9 : decode b_Mo_isHot 9 = .ok (.aload_n 0, 1) := by decide +kernel
theorem d_Mo_isHot_10 : decode b_Mo_isHot 10 = .ok (.iload_n 1, 1) := by decide +kernel
theorem d_Mo_isHot_11 : decode b_Mo_isHot 11 = .ok (.invokevirtual 181, 3) := by decide +kernel
theorem d_Mo_isHot_14 : decode b_Mo_isHot 14 = .ok (.iload_n 2, 1) := by decide +kernel
theorem d_Mo_isHot_15 : decode b_Mo_isHot 15 = .ok (.i2l, 1) := by decide +kernel
theorem d_Mo_isHot_16 : decode b_Mo_isHot 16 = .ok (.lcmp, 1) := by decide +kernel
theorem d_Mo_isHot_17 : decode b_Mo_isHot 17 = .ok (.ifCond .lt 7, 3) := by decide +kernel
theorem d_Mo_isHot_20 : decode b_Mo_isHot 20 = .ok (.iconst 1, 1) := by decide +kernel
theorem d_Mo_isHot_21 : decode b_Mo_isHot 21 = .ok (.goto 4, 3) := by decide +kernel
theorem d_Mo_isHot_24 : decode b_Mo_isHot 24 = .ok (.iconst 0, 1) := by decide +kernel
theorem d_Mo_isHot_25 : decode b_Mo_isHot 25 = .ok (.ireturn, 1) := by decide +kernel
theorem d_Mo_warmth_0 : decode b_Mo_warmth 0 = .ok (.aload_n 0, 1) := by decide +kernel
theorem d_Mo_warmth_1 : decode b_Mo_warmth 1 = .ok (.getfield 16, 3) := by decide +kernel
theorem d_Mo_warmth_4 : decode b_Mo_warmth 4 = .ok (.iload_n 1, 1) := by decide +kernel
theorem d_Mo_warmth_5 : decode b_Mo_warmth 5 = .ok (.laload, 1) := by decide +kernel
theorem d_Mo_warmth_6 : decode b_Mo_warmth 6 = .ok (.lconst 0, 1) := by decide +kernel
theorem d_Mo_warmth_7 : decode b_Mo_warmth 7 = .ok (.lcmp, 1) := by decide +kernel
theorem d_Mo_warmth_8 : decode b_Mo_warmth 8 = .ok (.ifCond .ne 7, 3) := by decide +kernel
theorem d_Mo_warmth_11 : decode b_Mo_warmth 11 = .ok (.lconst 0, 1) := by decide +kernel
theorem d_Mo_warmth_12 : decode b_Mo_warmth 12 = .ok (.goto 16, 3) := by decide +kernel
theorem d_Mo_warmth_15 : decode b_Mo_warmth 15 = .ok (.aload_n 0, 1) := by decide +kernel
theorem d_Mo_warmth_16 : decode b_Mo_warmth 16 = .ok (.getfield 20, 3) := by decide +kernel
theorem d_Mo_warmth_19 : decode b_Mo_warmth 19 = .ok (.iload_n 1, 1) := by decide +kernel
theorem d_Mo_warmth_20 : decode b_Mo_warmth 20 = .ok (.laload, 1) := by decide +kernel
theorem d_Mo_warmth_21 : decode b_Mo_warmth 21 = .ok (.aload_n 0, 1) := by decide +kernel
theorem d_Mo_warmth_22 : decode b_Mo_warmth 22 = .ok (.getfield 16, 3) := by decide +kernel
theorem d_Mo_warmth_25 : decode b_Mo_warmth 25 = .ok (.iload_n 1, 1) := by decide +kernel
theorem d_Mo_warmth_26 : decode b_Mo_warmth 26 = .ok (.laload, 1) := by decide +kernel
theorem d_Mo_warmth_27 : decode b_Mo_warmth 27 = .ok (.ldiv, 1) := by decide +kernel
theorem d_Mo_warmth_28 : decode b_Mo_warmth 28 = .ok (.lreturn, 1) := by decide +kernel
theorem d_Mo_breathe_0 : decode b_Mo_breathe 0 = .ok (.iconst 0, 1) := by decide +kernel
theorem d_Mo_breathe_1 : decode b_Mo_breathe 1 = .ok (.istore_n 1, 1) := by decide +kernel
theorem d_Mo_breathe_2 : decode b_Mo_breathe 2 = .ok (.iload_n 1, 1) := by decide +kernel
theorem d_Mo_breathe_3 : decode b_Mo_breathe 3 = .ok (.aload_n 0, 1) := by decide +kernel
theorem d_Mo_breathe_4 : decode b_Mo_breathe 4 = .ok (.getfield 151, 3) := by decide +kernel
theorem d_Mo_breathe_7 : decode b_Mo_breathe 7 = .ok (.if_icmp .ge 129, 3) := by decide +kernel
theorem d_Mo_breathe_10 : decode b_Mo_breathe 10 = .ok (.aload_n 0, 1) := by decide +kernel
theorem d_Mo_breathe_11 : decode b_Mo_breathe 11 = .ok (.getfield 108, 3) := by decide +kernel
theorem d_Mo_breathe_14 : decode b_Mo_breathe 14 = .ok (.iload_n 1, 1) := by decide +kernel
theorem d_Mo_breathe_15 : decode b_Mo_breathe 15 = .ok (.iaload, 1) := by decide +kernel
theorem d_Mo_breathe_16 : decode b_Mo_breathe 16 = .ok (.aload_n 0, 1) := by decide +kernel
theorem d_Mo_breathe_17 : decode b_Mo_breathe 17 = .ok (.getfield 105, 3) := by decide +kernel
theorem d_Mo_breathe_20 : decode b_Mo_breathe 20 = .ok (.iload_n 1, 1) := by decide +kernel
theorem d_Mo_breathe_21 : decode b_Mo_breathe 21 = .ok (.iaload, 1) := by decide +kernel
theorem d_Mo_breathe_22 : decode b_Mo_breathe 22 = .ok (.if_icmp .ge 58, 3) := by decide +kernel
theorem d_Mo_breathe_25 : decode b_Mo_breathe 25 = .ok (.aload_n 0, 1) := by decide +kernel
theorem d_Mo_breathe_26 : decode b_Mo_breathe 26 = .ok (.getfield 111, 3) := by decide +kernel
theorem d_Mo_breathe_29 : decode b_Mo_breathe 29 = .ok (.bipush 20, 2) := by decide +kernel
theorem d_Mo_breathe_31 : decode b_Mo_breathe 31 = .ok (.iload_n 1, 1) := by decide +kernel
theorem d_Mo_breathe_32 : decode b_Mo_breathe 32 = .ok (.imul, 1) := by decide +kernel
theorem d_Mo_breathe_33 : decode b_Mo_breathe 33 = .ok (.aload_n 0, 1) := by decide +kernel
theorem d_Mo_breathe_34 : decode b_Mo_breathe 34 = .ok (.getfield 108, 3) := by decide +kernel
theorem d_Mo_breathe_37 : decode b_Mo_breathe 37 = .ok (.iload_n 1, 1) := by decide +kernel
theorem d_Mo_breathe_38 : decode b_Mo_breathe 38 = .ok (.iaload, 1) := by decide +kernel
theorem d_Mo_breathe_39 : decode b_Mo_breathe 39 = .ok (.iadd, 1) := by decide +kernel
theorem d_Mo_breathe_40 : decode b_Mo_breathe 40 = .ok (.iaload, 1) := by decide +kernel
theorem d_Mo_breathe_41 : decode b_Mo_breathe 41 = .ok (.aload_n 0, 1) := by decide +kernel
theorem d_Mo_breathe_42 : decode b_Mo_breathe 42 = .ok (.getfield 138, 3) := by decide +kernel
theorem d_Mo_breathe_45 : decode b_Mo_breathe 45 = .ok (.if_icmp .ne 35, 3) := by decide +kernel
theorem d_Mo_breathe_48 : decode b_Mo_breathe 48 = .ok (.aload_n 0, 1) := by decide +kernel
theorem d_Mo_breathe_49 : decode b_Mo_breathe 49 = .ok (.getfield 96, 3) := by decide +kernel
theorem d_Mo_breathe_52 : decode b_Mo_breathe 52 = .ok (.iload_n 1, 1) := by decide +kernel
theorem d_Mo_breathe_53 : decode b_Mo_breathe 53 = .ok (.aload_n 0, 1) := by decide +kernel
theorem d_Mo_breathe_54 : decode b_Mo_breathe 54 = .ok (.getfield 114, 3) := by decide +kernel
theorem d_Mo_breathe_57 : decode b_Mo_breathe 57 = .ok (.bipush 20, 2) := by decide +kernel
theorem d_Mo_breathe_59 : decode b_Mo_breathe 59 = .ok (.iload_n 1, 1) := by decide +kernel
theorem d_Mo_breathe_60 : decode b_Mo_breathe 60 = .ok (.imul, 1) := by decide +kernel
theorem d_Mo_breathe_61 : decode b_Mo_breathe 61 = .ok (.aload_n 0, 1) := by decide +kernel
theorem d_Mo_breathe_62 : decode b_Mo_breathe 62 = .ok (.getfield 108, 3) := by decide +kernel
theorem d_Mo_breathe_65 : decode b_Mo_breathe 65 = .ok (.iload_n 1, 1) := by decide +kernel
theorem d_Mo_breathe_66 : decode b_Mo_breathe 66 = .ok (.iaload, 1) := by decide +kernel
theorem d_Mo_breathe_67 : decode b_Mo_breathe 67 = .ok (.iadd, 1) := by decide +kernel
theorem d_Mo_breathe_68 : decode b_Mo_breathe 68 = .ok (.iaload, 1) := by decide +kernel
theorem d_Mo_breathe_69 : decode b_Mo_breathe 69 = .ok (.iastore, 1) := by decide +kernel
theorem d_Mo_breathe_70 : decode b_Mo_breathe 70 = .ok (.aload_n 0, 1) := by decide +kernel
theorem d_Mo_breathe_71 : decode b_Mo_breathe 71 = .ok (.getfield 108, 3) := by decide +kernel
theorem d_Mo_breathe_74 : decode b_Mo_breathe 74 = .ok (.iload_n 1, 1) := by decide +kernel
theorem d_Mo_breathe_75 : decode b_Mo_breathe 75 = .ok (.dup2, 1) := by decide +kernel
theorem d_Mo_breathe_76 : decode b_Mo_breathe 76 = .ok (.iaload, 1) := by decide +kernel
theorem d_Mo_breathe_77 : decode b_Mo_breathe 77 = .ok (.iconst 1, 1) := by decide +kernel
theorem d_Mo_breathe_78 : decode b_Mo_breathe 78 = .ok (.iadd, 1) := by decide +kernel
theorem d_Mo_breathe_79 : decode b_Mo_breathe 79 = .ok (.iastore, 1) := by decide +kernel
theorem d_Mo_breathe_80 : decode b_Mo_breathe 80 = .ok (.aload_n 0, 1) := by decide +kernel
theorem d_Mo_breathe_81 : decode b_Mo_breathe 81 = .ok (.getfield 96, 3) := by decide +kernel
theorem d_Mo_breathe_84 : decode b_Mo_breathe 84 = .ok (.iload_n 1, 1) := by decide +kernel
theorem d_Mo_breathe_85 : decode b_Mo_breathe 85 = .ok (.iaload, 1) := by decide +kernel
theorem d_Mo_breathe_86 : decode b_Mo_breathe 86 = .ok (.istore_n 2, 1) := by decide +kernel
theorem d_Mo_breathe_87 : decode b_Mo_breathe 87 = .ok (.iload_n 2, 1) := by decide +kernel
theorem d_Mo_breathe_88 : decode b_Mo_breathe 88 = .ok (.iconst (-1), 1) := by decide +kernel
theorem d_Mo_breathe_89 : decode b_Mo_breathe 89 = .ok (.if_icmp .eq 41, 3) := by decide +kernel
theorem d_Mo_breathe_92 : decode b_Mo_breathe 92 = .ok (.aload_n 0, 1) := by decide +kernel
theorem d_Mo_breathe_93 : decode b_Mo_breathe 93 = .ok (.iload_n 2, 1) := by decide +kernel
theorem d_Mo_breathe_94 : decode b_Mo_breathe 94 = .ok (.invokevirtual 154, 3) := by decide +kernel
theorem d_Mo_breathe_97 : decode b_Mo_breathe 97 = .ok (.ldc2_w 188, 3) := by decide +kernel
theorem d_Mo_breathe_100 : decode b_Mo_breathe 100 = .ok (.lcmp, 1) := by decide +kernel
theorem d_Mo_breathe_101 : decode b_Mo_breathe 101 = .ok (.ifCond .ge 29, 3) := by decide +kernel
theorem d_Mo_breathe_104 : decode b_Mo_breathe 104 = .ok (.aload_n 0, 1) := by decide +kernel
theorem d_Mo_breathe_105 : decode b_Mo_breathe 105 = .ok (.getfield 99, 3) := by decide +kernel
theorem d_Mo_breathe_108 : decode b_Mo_breathe 108 = .ok (.iload_n 1, 1) := by decide +kernel
theorem d_Mo_breathe_109 : decode b_Mo_breathe 109 = .ok (.dup2, 1) := by decide +kernel
theorem d_Mo_breathe_110 : decode b_Mo_breathe 110 = .ok (.laload, 1) := by decide +kernel
theorem d_Mo_breathe_111 : decode b_Mo_breathe 111 = .ok (.aload_n 0, 1) := by decide +kernel
theorem d_Mo_breathe_112 : decode b_Mo_breathe 112 = .ok (.iload_n 2, 1) := by decide +kernel
theorem d_Mo_breathe_113 : decode b_Mo_breathe 113 = .ok (.invokevirtual 181, 3) := by decide +kernel
theorem d_Mo_breathe_116 : decode b_Mo_breathe 116 = .ok (.lconst 1, 1) := by decide +kernel
theorem d_Mo_breathe_117 : decode b_Mo_breathe 117 = .ok (.ladd, 1) := by decide +kernel
theorem d_Mo_breathe_118 : decode b_Mo_breathe 118 = .ok (.ladd, 1) := by decide +kernel
theorem d_Mo_breathe_119 : decode b_Mo_breathe 119 = .ok (.lastore, 1) := by decide +kernel
theorem d_Mo_breathe_120 : decode b_Mo_breathe 120 = .ok (.aload_n 0, 1) := by decide +kernel
theorem d_Mo_breathe_121 : decode b_Mo_breathe 121 = .ok (.getfield 102, 3) := by decide +kernel
theorem d_Mo_breathe_124 : decode b_Mo_breathe 124 = .ok (.iload_n 1, 1) := by decide +kernel
theorem d_Mo_breathe_125 : decode b_Mo_breathe 125 = .ok (.dup2, 1) := by decide +kernel
theorem d_Mo_breathe_126 : decode b_Mo_breathe 126 = .ok (.iaload, 1) := by decide +kernel
theorem d_Mo_breathe_127 : decode b_Mo_breathe 127 = .ok (.iconst 1, 1) := by decide +kernel
theorem d_Mo_breathe_128 : decode b_Mo_breathe 128 = .ok (.iadd, 1) := by decide +kernel
theorem d_Mo_breathe_129 : decode b_Mo_breathe 129 = .ok (.iastore, 1) := by decide +kernel
theorem d_Mo_breathe_130 : decode b_Mo_breathe 130 = .ok (.iinc 1 1, 3) := by decide +kernel
theorem d_Mo_breathe_133 : decode b_Mo_breathe 133 = .ok (.goto (-131), 3) := by decide +kernel
theorem d_Mo_breathe_136 : decode b_Mo_breathe 136 = .ok (.return_, 1) := by decide +kernel
theorem d_Mo_roomAt_0 : decode b_Mo_roomAt 0 = .ok (.aload_n 0, 1) := by decide +kernel
theorem d_Mo_roomAt_1 : decode b_Mo_roomAt 1 = .ok (.aload_n 0, 1) := by decide +kernel
theorem d_Mo_roomAt_2 : decode b_Mo_roomAt 2 = .ok (.iload_n 1, 1) := by decide +kernel
theorem d_Mo_roomAt_3 : decode b_Mo_roomAt 3 = .ok (.invokevirtual 128, 3) := by decide +kernel
theorem d_Mo_roomAt_6 : decode b_Mo_roomAt 6 = .ok (.ifCond .eq 17, 3) := by decide +kernel
theorem d_Mo_roomAt_9 : decode b_Mo_roomAt 9 = .ok (.iload_n 2, 1) := by decide +kernel
theorem d_Mo_roomAt_10 : decode b_Mo_roomAt 10 = .ok (.iconst 0, 1) := by decide +kernel
theorem d_Mo_roomAt_11 : decode b_Mo_roomAt 11 = .ok (.bipush 6, 2) := by decide +kernel
theorem d_Mo_roomAt_13 : decode b_Mo_roomAt 13 = .ok (.invokestatic 124, 3) := by decide +kernel
theorem d_Mo_roomAt_16 : decode b_Mo_roomAt 16 = .ok (.ifCond .eq 7, 3) := by decide +kernel
theorem d_Mo_roomAt_19 : decode b_Mo_roomAt 19 = .ok (.iconst 0, 1) := by decide +kernel
theorem d_Mo_roomAt_20 : decode b_Mo_roomAt 20 = .ok (.goto 4, 3) := by decide +kernel
theorem d_Mo_roomAt_23 : decode b_Mo_roomAt 23 = .ok (.iconst 1, 1) := by decide +kernel
theorem d_Mo_roomAt_24 : decode b_Mo_roomAt 24 = .ok (.putfield 117, 3) := by decide +kernel
theorem d_Mo_roomAt_27 : decode b_Mo_roomAt 27 = .ok (.aload_n 0, 1) := by decide +kernel
theorem d_Mo_roomAt_28 : decode b_Mo_roomAt 28 = .ok (.getfield 117, 3) := by decide +kernel
theorem d_Mo_roomAt_31 : decode b_Mo_roomAt 31 = .ok (.ifCond .le 5, 3) := by decide +kernel
theorem d_Mo_roomAt_34 : decode b_Mo_roomAt 34 = .ok (.lconst 0, 1) := by decide +kernel
theorem d_Mo_roomAt_35 : decode b_Mo_roomAt 35 = .ok (.lreturn, 1) := by decide +kernel
theorem d_Mo_roomAt_36 : decode b_Mo_roomAt 36 = .ok (.iload_n 2, 1) := by decide +kernel
theorem d_Mo_roomAt_37 : decode b_Mo_roomAt 37 = .ok (.tableswitch 95 0 5 #[39, 46, 53, 68, 74, 80], 39) := by decide +kernel
theorem d_Mo_roomAt_76 : decode b_Mo_roomAt 76 = .ok (.aload_n 0, 1) := by decide +kernel
theorem d_Mo_roomAt_77 : decode b_Mo_roomAt 77 = .ok (.getfield 16, 3) := by decide +kernel
theorem d_Mo_roomAt_80 : decode b_Mo_roomAt 80 = .ok (.iload_n 1, 1) := by decide +kernel
theorem d_Mo_roomAt_81 : decode b_Mo_roomAt 81 = .ok (.laload, 1) := by decide +kernel
theorem d_Mo_roomAt_82 : decode b_Mo_roomAt 82 = .ok (.lreturn, 1) := by decide +kernel
theorem d_Mo_roomAt_83 : decode b_Mo_roomAt 83 = .ok (.aload_n 0, 1) := by decide +kernel
theorem d_Mo_roomAt_84 : decode b_Mo_roomAt 84 = .ok (.getfield 20, 3) := by decide +kernel
theorem d_Mo_roomAt_87 : decode b_Mo_roomAt 87 = .ok (.iload_n 1, 1) := by decide +kernel
theorem d_Mo_roomAt_88 : decode b_Mo_roomAt 88 = .ok (.laload, 1) := by decide +kernel
theorem d_Mo_roomAt_89 : decode b_Mo_roomAt 89 = .ok (.lreturn, 1) := by decide +kernel
theorem d_Mo_roomAt_90 : decode b_Mo_roomAt 90 = .ok (.aload_n 0, 1) := by decide +kernel
theorem d_Mo_roomAt_91 : decode b_Mo_roomAt 91 = .ok (.getfield 16, 3) := by decide +kernel
theorem d_Mo_roomAt_94 : decode b_Mo_roomAt 94 = .ok (.iload_n 1, 1) := by decide +kernel
theorem d_Mo_roomAt_95 : decode b_Mo_roomAt 95 = .ok (.laload, 1) := by decide +kernel
theorem d_Mo_roomAt_96 : decode b_Mo_roomAt 96 = .ok (.aload_n 0, 1) := by decide +kernel
theorem d_Mo_roomAt_97 : decode b_Mo_roomAt 97 = .ok (.getfield 7, 3) := by decide +kernel
theorem d_Mo_roomAt_100 : decode b_Mo_roomAt 100 = .ok (.iload_n 1, 1) := by decide +kernel
theorem d_Mo_roomAt_101 : decode b_Mo_roomAt 101 = .ok (.iaload, 1) := by decide +kernel
theorem d_Mo_roomAt_102 : decode b_Mo_roomAt 102 = .ok (.i2l, 1) := by decide +kernel
theorem d_Mo_roomAt_103 : decode b_Mo_roomAt 103 = .ok (.ldiv, 1) := by decide +kernel
theorem d_Mo_roomAt_104 : decode b_Mo_roomAt 104 = .ok (.lreturn, 1) := by decide +kernel
theorem d_Mo_roomAt_105 : decode b_Mo_roomAt 105 = .ok (.aload_n 0, 1) := by decide +kernel
theorem d_Mo_roomAt_106 : decode b_Mo_roomAt 106 = .ok (.iload_n 1, 1) := by decide +kernel
theorem d_Mo_roomAt_107 : decode b_Mo_roomAt 107 = .ok (.invokevirtual 181, 3) := by decide +kernel
theorem d_Mo_roomAt_110 : decode b_Mo_roomAt 110 = .ok (.lreturn, 1) := by decide +kernel
theorem d_Mo_roomAt_111 : decode b_Mo_roomAt 111 = .ok (.aload_n 0, 1) := by decide +kernel
theorem d_Mo_roomAt_112 : decode b_Mo_roomAt 112 = .ok (.iload_n 1, 1) := by decide +kernel
theorem d_Mo_roomAt_113 : decode b_Mo_roomAt 113 = .ok (.invokevirtual 154, 3) := by decide +kernel
theorem d_Mo_roomAt_116 : decode b_Mo_roomAt 116 = .ok (.lreturn, 1) := by decide +kernel
theorem d_Mo_roomAt_117 : decode b_Mo_roomAt 117 = .ok (.aload_n 0, 1) := by decide +kernel
theorem d_Mo_roomAt_118 : decode b_Mo_roomAt 118 = .ok (.getfield 26, 3) := by decide +kernel
theorem d_Mo_roomAt_121 : decode b_Mo_roomAt 121 = .ok (.iload_n 1, 1) := by decide +kernel
theorem d_Mo_roomAt_122 : decode b_Mo_roomAt 122 = .ok (.baload, 1) := by decide +kernel
theorem d_Mo_roomAt_123 : decode b_Mo_roomAt 123 = .ok (.ifCond .eq 7, 3) := by decide +kernel
theorem d_Mo_roomAt_126 : decode b_Mo_roomAt 126 = .ok (.lconst 1, 1) := by decide +kernel
theorem d_Mo_roomAt_127 : decode b_Mo_roomAt 127 = .ok (.goto 4, 3) := by decide +kernel
theorem d_Mo_roomAt_130 : decode b_Mo_roomAt 130 = .ok (.lconst 0, 1) := by decide +kernel
theorem d_Mo_roomAt_131 : decode b_Mo_roomAt 131 = .ok (.lreturn, 1) := by decide +kernel
theorem d_Mo_roomAt_132 : decode b_Mo_roomAt 132 = .ok (.aload_n 0, 1) := by decide +kernel
theorem d_Mo_roomAt_133 : decode b_Mo_roomAt 133 = .ok (.getfield 30, 3) := by decide +kernel
theorem d_Mo_roomAt_136 : decode b_Mo_roomAt 136 = .ok (.iload_n 1, 1) := by decide +kernel
theorem d_Mo_roomAt_137 : decode b_Mo_roomAt 137 = .ok (.iaload, 1) := by decide +kernel
theorem d_Mo_roomAt_138 : decode b_Mo_roomAt 138 = .ok (.i2l, 1) := by decide +kernel
theorem d_Mo_roomAt_139 : decode b_Mo_roomAt 139 = .ok (.lreturn, 1) := by decide +kernel
theorem d_Mo_openingAt_0 : decode b_Mo_openingAt 0 = .ok (.aload_n 0, 1) := by decide +kernel
theorem d_Mo_openingAt_1 : decode b_Mo_openingAt 1 = .ok (.iload_n 1, 1) := by decide +kernel
theorem d_Mo_openingAt_2 : decode b_Mo_openingAt 2 = .ok (.iconst 0, 1) := by decide +kernel
theorem d_Mo_openingAt_3 : decode b_Mo_openingAt 3 = .ok (.aload_n 0, 1) := by decide +kernel
theorem d_Mo_openingAt_4 : decode b_Mo_openingAt 4 = .ok (.getfield 135, 3) := by decide +kernel
theorem d_Mo_openingAt_7 : decode b_Mo_openingAt 7 = .ok (.iconst 1, 1) := by decide +kernel
theorem d_Mo_openingAt_8 : decode b_Mo_openingAt 8 = .ok (.isub, 1) := by decide +kernel
theorem d_Mo_openingAt_9 : decode b_Mo_openingAt 9 = .ok (.invokestatic 124, 3) := by decide +kernel
theorem d_Mo_openingAt_12 : decode b_Mo_openingAt 12 = .ok (.ifCond .eq 16, 3) := by decide +kernel
theorem d_Mo_openingAt_15 : decode b_Mo_openingAt 15 = .ok (.iload_n 2, 1) := by decide +kernel
theorem d_Mo_openingAt_16 : decode b_Mo_openingAt 16 = .ok (.iconst 0, 1) := by decide +kernel
theorem d_Mo_openingAt_17 : decode b_Mo_openingAt 17 = .ok (.iconst 2, 1) := by decide +kernel
theorem d_Mo_openingAt_18 : decode b_Mo_openingAt 18 = .ok (.invokestatic 124, 3) := by decide +kernel
theorem d_Mo_openingAt_21 : decode b_Mo_openingAt 21 = .ok (.ifCond .eq 7, 3) := by decide +kernel
theorem d_Mo_openingAt_24 : decode b_Mo_openingAt 24 = .ok (.iconst 0, 1) := by decide +kernel
theorem d_Mo_openingAt_25 : decode b_Mo_openingAt 25 = .ok (.goto 4, 3) := by decide +kernel
theorem d_Mo_openingAt_28 : decode b_Mo_openingAt 28 = .ok (.iconst 1, 1) := by decide +kernel
theorem d_Mo_openingAt_29 : decode b_Mo_openingAt 29 = .ok (.putfield 117, 3) := by decide +kernel
theorem d_Mo_openingAt_32 : decode b_Mo_openingAt 32 = .ok (.aload_n 0, 1) := by decide +kernel
theorem d_Mo_openingAt_33 : decode b_Mo_openingAt 33 = .ok (.getfield 117, 3) := by decide +kernel
theorem d_Mo_openingAt_36 : decode b_Mo_openingAt 36 = .ok (.ifCond .le 7, 3) := by decide +kernel
theorem d_Mo_openingAt_39 : decode b_Mo_openingAt 39 = .ok (.lconst 0, 1) := by decide +kernel
theorem d_Mo_openingAt_40 : decode b_Mo_openingAt 40 = .ok (.goto 44, 3) := by decide +kernel
theorem d_Mo_openingAt_43 : decode b_Mo_openingAt 43 = .ok (.iload_n 2, 1) := by decide +kernel
theorem d_Mo_openingAt_44 : decode b_Mo_openingAt 44 = .ok (.ifCond .ne 20, 3) := by decide +kernel
theorem d_Mo_openingAt_47 : decode b_Mo_openingAt 47 = .ok (.aload_n 0, 1) := by decide +kernel
theorem d_Mo_openingAt_48 : decode b_Mo_openingAt 48 = .ok (.getfield 51, 3) := by decide +kernel
theorem d_Mo_openingAt_51 : decode b_Mo_openingAt 51 = .ok (.iload_n 1, 1) := by decide +kernel
theorem d_Mo_openingAt_52 : decode b_Mo_openingAt 52 = .ok (.baload, 1) := by decide +kernel
theorem d_Mo_openingAt_53 : decode b_Mo_openingAt 53 = .ok (.ifCond .eq 7, 3) := by decide +kernel
theorem d_Mo_openingAt_56 : decode b_Mo_openingAt 56 = .ok (.lconst 1, 1) := by decide +kernel
theorem d_Mo_openingAt_57 : decode b_Mo_openingAt 57 = .ok (.goto 27, 3) := by decide +kernel
theorem d_Mo_openingAt_60 : decode b_Mo_openingAt 60 = .ok (.lconst 0, 1) := by decide +kernel
theorem d_Mo_openingAt_61 : decode b_Mo_openingAt 61 = .ok (.goto 23, 3) := by decide +kernel
theorem d_Mo_openingAt_64 : decode b_Mo_openingAt 64 = .ok (.iload_n 2, 1) := by decide +kernel
theorem d_Mo_openingAt_65 : decode b_Mo_openingAt 65 = .ok (.iconst 1, 1) := by decide +kernel
theorem d_Mo_openingAt_66 : decode b_Mo_openingAt 66 = .ok (.if_icmp .ne 12, 3) := by decide +kernel
theorem d_Mo_openingAt_69 : decode b_Mo_openingAt 69 = .ok (.aload_n 0, 1) := by decide +kernel
theorem d_Mo_openingAt_70 : decode b_Mo_openingAt 70 = .ok (.getfield 54, 3) := by decide +kernel
theorem d_Mo_openingAt_73 : decode b_Mo_openingAt 73 = .ok (.iload_n 1, 1) := by decide +kernel
theorem d_Mo_openingAt_74 : decode b_Mo_openingAt 74 = .ok (.laload, 1) := by decide +kernel
theorem d_Mo_openingAt_75 : decode b_Mo_openingAt 75 = .ok (.goto 9, 3) := by decide +kernel
theorem d_Mo_openingAt_78 : decode b_Mo_openingAt 78 = .ok (.aload_n 0, 1) := by decide +kernel
theorem d_Mo_openingAt_79 : decode b_Mo_openingAt 79 = .ok (.getfield 60, 3) := by decide +kernel
theorem d_Mo_openingAt_82 : decode b_Mo_openingAt 82 = .ok (.iload_n 1, 1) := by decide +kernel
theorem d_Mo_openingAt_83 : decode b_Mo_openingAt 83 = .ok (.laload, 1) := by decide +kernel
theorem d_Mo_openingAt_84 : decode b_Mo_openingAt 84 = .ok (.lreturn, 1) := by decide +kernel
theorem d_Mo_personAt_0 : decode b_Mo_personAt 0 = .ok (.aload_n 0, 1) := by decide +kernel
theorem d_Mo_personAt_1 : decode b_Mo_personAt 1 = .ok (.iload_n 1, 1) := by decide +kernel
theorem d_Mo_personAt_2 : decode b_Mo_personAt 2 = .ok (.iconst 0, 1) := by decide +kernel
theorem d_Mo_personAt_3 : decode b_Mo_personAt 3 = .ok (.aload_n 0, 1) := by decide +kernel
theorem d_Mo_personAt_4 : decode b_Mo_personAt 4 = .ok (.getfield 151, 3) := by decide +kernel
theorem d_Mo_personAt_7 : decode b_Mo_personAt 7 = .ok (.iconst 1, 1) := by decide +kernel
theorem d_Mo_personAt_8 : decode b_Mo_personAt 8 = .ok (.isub, 1) := by decide +kernel
theorem d_Mo_personAt_9 : decode b_Mo_personAt 9 = .ok (.invokestatic 124, 3) := by decide +kernel
theorem d_Mo_personAt_12 : decode b_Mo_personAt 12 = .ok (.ifCond .eq 16, 3) := by decide +kernel
theorem d_Mo_personAt_15 : decode b_Mo_personAt 15 = .ok (.iload_n 2, 1) := by decide +kernel
theorem d_Mo_personAt_16 : decode b_Mo_personAt 16 = .ok (.iconst 0, 1) := by decide +kernel
theorem d_Mo_personAt_17 : decode b_Mo_personAt 17 = .ok (.iconst 2, 1) := by decide +kernel
theorem d_Mo_personAt_18 : decode b_Mo_personAt 18 = .ok (.invokestatic 124, 3) := by decide +kernel
theorem d_Mo_personAt_21 : decode b_Mo_personAt 21 = .ok (.ifCond .eq 7, 3) := by decide +kernel
theorem d_Mo_personAt_24 : decode b_Mo_personAt 24 = .ok (.iconst 0, 1) := by decide +kernel
theorem d_Mo_personAt_25 : decode b_Mo_personAt 25 = .ok (.goto 4, 3) := by decide +kernel
theorem d_Mo_personAt_28 : decode b_Mo_personAt 28 = .ok (.iconst 1, 1) := by decide +kernel
theorem d_Mo_personAt_29 : decode b_Mo_personAt 29 = .ok (.putfield 117, 3) := by decide +kernel
theorem d_Mo_personAt_32 : decode b_Mo_personAt 32 = .ok (.aload_n 0, 1) := by decide +kernel
theorem d_Mo_personAt_33 : decode b_Mo_personAt 33 = .ok (.getfield 117, 3) := by decide +kernel
theorem d_Mo_personAt_36 : decode b_Mo_personAt 36 = .ok (.ifCond .le 7, 3) := by decide +kernel
theorem d_Mo_personAt_39 : decode b_Mo_personAt 39 = .ok (.lconst 0, 1) := by decide +kernel
theorem d_Mo_personAt_40 : decode b_Mo_personAt 40 = .ok (.goto 38, 3) := by decide +kernel
theorem d_Mo_personAt_43 : decode b_Mo_personAt 43 = .ok (.iload_n 2, 1) := by decide +kernel
theorem d_Mo_personAt_44 : decode b_Mo_personAt 44 = .ok (.ifCond .ne 13, 3) := by decide +kernel
theorem d_Mo_personAt_47 : decode b_Mo_personAt 47 = .ok (.aload_n 0, 1) := by decide +kernel
theorem d_Mo_personAt_48 : decode b_Mo_personAt 48 = .ok (.getfield 96, 3) := by decide +kernel
theorem d_Mo_personAt_51 : decode b_Mo_personAt 51 = .ok (.iload_n 1, 1) := by decide +kernel
theorem d_Mo_personAt_52 : decode b_Mo_personAt 52 = .ok (.iaload, 1) := by decide +kernel
theorem d_Mo_personAt_53 : decode b_Mo_personAt 53 = .ok (.i2l, 1) := by decide +kernel
theorem d_Mo_personAt_54 : decode b_Mo_personAt 54 = .ok (.goto 24, 3) := by decide +kernel
theorem d_Mo_personAt_57 : decode b_Mo_personAt 57 = .ok (.iload_n 2, 1) := by decide +kernel
theorem d_Mo_personAt_58 : decode b_Mo_personAt 58 = .ok (.iconst 1, 1) := by decide +kernel
theorem d_Mo_personAt_59 : decode b_Mo_personAt 59 = .ok (.if_icmp .ne 12, 3) := by decide +kernel
theorem d_Mo_personAt_62 : decode b_Mo_personAt 62 = .ok (.aload_n 0, 1) := by decide +kernel
theorem d_Mo_personAt_63 : decode b_Mo_personAt 63 = .ok (.getfield 99, 3) := by decide +kernel
theorem d_Mo_personAt_66 : decode b_Mo_personAt 66 = .ok (.iload_n 1, 1) := by decide +kernel
theorem d_Mo_personAt_67 : decode b_Mo_personAt 67 = .ok (.laload, 1) := by decide +kernel
theorem d_Mo_personAt_68 : decode b_Mo_personAt 68 = .ok (.goto 10, 3) := by decide +kernel
theorem d_Mo_personAt_71 : decode b_Mo_personAt 71 = .ok (.aload_n 0, 1) := by decide +kernel
theorem d_Mo_personAt_72 : decode b_Mo_personAt 72 = .ok (.getfield 102, 3) := by decide +kernel
theorem d_Mo_personAt_75 : decode b_Mo_personAt 75 = .ok (.iload_n 1, 1) := by decide +kernel
theorem d_Mo_personAt_76 : decode b_Mo_personAt 76 = .ok (.iaload, 1) := by decide +kernel
theorem d_Mo_personAt_77 : decode b_Mo_personAt 77 = .ok (.i2l, 1) := by decide +kernel
theorem d_Mo_personAt_78 : decode b_Mo_personAt 78 = .ok (.lreturn, 1) := by decide +kernel
theorem d_Mo_steelAt_0 : decode b_Mo_steelAt 0 = .ok (.aload_n 0, 1) := by decide +kernel
theorem d_Mo_steelAt_1 : decode b_Mo_steelAt 1 = .ok (.iload_n 1, 1) := by decide +kernel
theorem d_Mo_steelAt_2 : decode b_Mo_steelAt 2 = .ok (.iconst 0, 1) := by decide +kernel
theorem d_Mo_steelAt_3 : decode b_Mo_steelAt 3 = .ok (.aload_n 0, 1) := by decide +kernel
theorem d_Mo_steelAt_4 : decode b_Mo_steelAt 4 = .ok (.getfield 148, 3) := by decide +kernel
theorem d_Mo_steelAt_7 : decode b_Mo_steelAt 7 = .ok (.iconst 1, 1) := by decide +kernel
theorem d_Mo_steelAt_8 : decode b_Mo_steelAt 8 = .ok (.isub, 1) := by decide +kernel
theorem d_Mo_steelAt_9 : decode b_Mo_steelAt 9 = .ok (.invokestatic 124, 3) := by decide +kernel
theorem d_Mo_steelAt_12 : decode b_Mo_steelAt 12 = .ok (.ifCond .eq 7, 3) := by decide +kernel
theorem d_Mo_steelAt_15 : decode b_Mo_steelAt 15 = .ok (.iconst 0, 1) := by decide +kernel
theorem d_Mo_steelAt_16 : decode b_Mo_steelAt 16 = .ok (.goto 4, 3) := by decide +kernel
theorem d_Mo_steelAt_19 : decode b_Mo_steelAt 19 = .ok (.iconst 1, 1) := by decide +kernel
theorem d_Mo_steelAt_20 : decode b_Mo_steelAt 20 = .ok (.putfield 117, 3) := by decide +kernel
theorem d_Mo_steelAt_23 : decode b_Mo_steelAt 23 = .ok (.aload_n 0, 1) := by decide +kernel
theorem d_Mo_steelAt_24 : decode b_Mo_steelAt 24 = .ok (.getfield 117, 3) := by decide +kernel
theorem d_Mo_steelAt_27 : decode b_Mo_steelAt 27 = .ok (.ifCond .le 7, 3) := by decide +kernel
theorem d_Mo_steelAt_30 : decode b_Mo_steelAt 30 = .ok (.iconst 0, 1) := by decide +kernel
theorem d_Mo_steelAt_31 : decode b_Mo_steelAt 31 = .ok (.goto 10, 3) := by decide +kernel
theorem d_Mo_steelAt_34 : decode b_Mo_steelAt 34 = .ok (.aload_n 0, 1) := by decide +kernel
theorem d_Mo_steelAt_35 : decode b_Mo_steelAt 35 = .ok (.getfield 93, 3) := by decide +kernel
theorem d_Mo_steelAt_38 : decode b_Mo_steelAt 38 = .ok (.iload_n 1, 1) := by decide +kernel
theorem d_Mo_steelAt_39 : decode b_Mo_steelAt 39 = .ok (.laload, 1) := by decide +kernel
theorem d_Mo_steelAt_40 : decode b_Mo_steelAt 40 = .ok (.l2i, 1) := by decide +kernel
theorem d_Mo_steelAt_41 : decode b_Mo_steelAt 41 = .ok (.ireturn, 1) := by decide +kernel
theorem d_Mo_balance_0 : decode b_Mo_balance 0 = .ok (.aload_n 0, 1) := by decide +kernel
theorem d_Mo_balance_1 : decode b_Mo_balance 1 = .ok (.iload_n 1, 1) := by decide +kernel
theorem d_Mo_balance_2 : decode b_Mo_balance 2 = .ok (.iconst 0, 1) := by decide +kernel
theorem d_Mo_balance_3 : decode b_Mo_balance 3 = .ok (.iconst 4, 1) := by decide +kernel
theorem d_Mo_balance_4 : decode b_Mo_balance 4 = .ok (.invokestatic 124, 3) := by decide +kernel
theorem d_Mo_balance_7 : decode b_Mo_balance 7 = .ok (.ifCond .eq 7, 3) := by decide +kernel
theorem d_Mo_balance_10 : decode b_Mo_balance 10 = .ok (.iconst 0, 1) := by decide +kernel
theorem d_Mo_balance_11 : decode b_Mo_balance 11 = .ok (.goto 4, 3) := by decide +kernel
theorem d_Mo_balance_14 : decode b_Mo_balance 14 = .ok (.iconst 1, 1) := by decide +kernel
theorem d_Mo_balance_15 : decode b_Mo_balance 15 = .ok (.putfield 117, 3) := by decide +kernel
theorem d_Mo_balance_18 : decode b_Mo_balance 18 = .ok (.aload_n 0, 1) := by decide +kernel
theorem d_Mo_balance_19 : decode b_Mo_balance 19 = .ok (.getfield 117, 3) := by decide +kernel
theorem d_Mo_balance_22 : decode b_Mo_balance 22 = .ok (.ifCond .le 5, 3) := by decide +kernel
theorem d_Mo_balance_25 : decode b_Mo_balance 25 = .ok (.lconst 0, 1) := by decide +kernel
theorem d_Mo_balance_26 : decode b_Mo_balance 26 = .ok (.lreturn, 1) := by decide +kernel
theorem d_Mo_balance_27 : decode b_Mo_balance 27 = .ok (.lconst 0, 1) := by decide +kernel
theorem d_Mo_balance_28 : decode b_Mo_balance 28 = .ok (.lstore_n 2, 1) := by decide +kernel
theorem d_Mo_balance_29 : decode b_Mo_balance 29 = .ok (.iconst 0, 1) := by decide +kernel
theorem d_Mo_balance_30 : decode b_Mo_balance 30 = .ok (.istore 4, 2) := by decide +kernel
theorem d_Mo_balance_32 : decode b_Mo_balance 32 = .ok (.iload 4, 2) := by decide +kernel
theorem d_Mo_balance_34 : decode b_Mo_balance 34 = .ok (.aload_n 0, 1) := by decide +kernel
theorem d_Mo_balance_35 : decode b_Mo_balance 35 = .ok (.getfield 121, 3) := by decide +kernel
theorem d_Mo_balance_38 : decode b_Mo_balance 38 = .ok (.if_icmp .ge 19, 3) := by decide +kernel
theorem d_Mo_balance_41 : decode b_Mo_balance 41 = .ok (.lload_n 2, 1) := by decide +kernel
theorem d_Mo_balance_42 : decode b_Mo_balance 42 = .ok (.aload_n 0, 1) := by decide +kernel
theorem d_Mo_balance_43 : decode b_Mo_balance 43 = .ok (.getfield 16, 3) := by decide +kernel
theorem d_Mo_balance_46 : decode b_Mo_balance 46 = .ok (.iload 4, 2) := by decide +kernel
theorem d_Mo_balance_48 : decode b_Mo_balance 48 = .ok (.laload, 1) := by decide +kernel
theorem d_Mo_balance_49 : decode b_Mo_balance 49 = .ok (.ladd, 1) := by decide +kernel
theorem d_Mo_balance_50 : decode b_Mo_balance 50 = .ok (.lstore_n 2, 1) := by decide +kernel
theorem d_Mo_balance_51 : decode b_Mo_balance 51 = .ok (.iinc 4 1, 3) := by decide +kernel
theorem d_Mo_balance_54 : decode b_Mo_balance 54 = .ok (.goto (-22), 3) := by decide +kernel
theorem d_Mo_balance_57 : decode b_Mo_balance 57 = .ok (.iload_n 1, 1) := by decide +kernel
theorem d_Mo_balance_58 : decode b_Mo_balance 58 = .ok (.ifCond .ne 10, 3) := by decide +kernel
theorem d_Mo_balance_61 : decode b_Mo_balance 61 = .ok (.aload_n 0, 1) := by decide +kernel
theorem d_Mo_balance_62 : decode b_Mo_balance 62 = .ok (.getfield 160, 3) := by decide +kernel
theorem d_Mo_balance_65 : decode b_Mo_balance 65 = .ok (.goto 40, 3) := by decide +kernel
theorem d_Mo_balance_68 : decode b_Mo_balance 68 = .ok (.iload_n 1, 1) := by decide +kernel
theorem d_Mo_balance_69 : decode b_Mo_balance 69 = .ok (.iconst 1, 1) := by decide +kernel
theorem d_Mo_balance_70 : decode b_Mo_balance 70 = .ok (.if_icmp .ne 7, 3) := by decide +kernel
theorem d_Mo_balance_73 : decode b_Mo_balance 73 = .ok (.lload_n 2, 1) := by decide +kernel
theorem d_Mo_balance_74 : decode b_Mo_balance 74 = .ok (.goto 31, 3) := by decide +kernel
theorem d_Mo_balance_77 : decode b_Mo_balance 77 = .ok (.iload_n 1, 1) := by decide +kernel
theorem d_Mo_balance_78 : decode b_Mo_balance 78 = .ok (.iconst 2, 1) := by decide +kernel
theorem d_Mo_balance_79 : decode b_Mo_balance 79 = .ok (.if_icmp .ne 10, 3) := by decide +kernel
theorem d_Mo_balance_82 : decode b_Mo_balance 82 = .ok (.aload_n 0, 1) := by decide +kernel
theorem d_Mo_balance_83 : decode b_Mo_balance 83 = .ok (.getfield 172, 3) := by decide +kernel
theorem d_Mo_balance_86 : decode b_Mo_balance 86 = .ok (.goto 19, 3) := by decide +kernel
theorem d_Mo_balance_89 : decode b_Mo_balance 89 = .ok (.iload_n 1, 1) := by decide +kernel
theorem d_Mo_balance_90 : decode b_Mo_balance 90 = .ok (.iconst 3, 1) := by decide +kernel
theorem d_Mo_balance_91 : decode b_Mo_balance 91 = .ok (.if_icmp .ne 10, 3) := by decide +kernel
theorem d_Mo_balance_94 : decode b_Mo_balance 94 = .ok (.aload_n 0, 1) := by decide +kernel
theorem d_Mo_balance_95 : decode b_Mo_balance 95 = .ok (.getfield 175, 3) := by decide +kernel
theorem d_Mo_balance_98 : decode b_Mo_balance 98 = .ok (.goto 7, 3) := by decide +kernel
theorem d_Mo_balance_101 : decode b_Mo_balance 101 = .ok (.aload_n 0, 1) := by decide +kernel
theorem d_Mo_balance_102 : decode b_Mo_balance 102 = .ok (.getfield 178, 3) := by decide +kernel
theorem d_Mo_balance_105 : decode b_Mo_balance 105 = .ok (.lreturn, 1) := by decide +kernel
