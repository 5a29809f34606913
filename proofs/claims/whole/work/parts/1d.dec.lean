theorem dX9_init_0 : decode cX9_init 0 = .ok (.aload_n 0, 1) := by decide +kernel
theorem dX9_init_1 : decode cX9_init 1 = .ok (.invokespecial 1, 3) := by decide +kernel
theorem dX9_init_4 : decode cX9_init 4 = .ok (.aload_n 0, 1) := by decide +kernel
theorem dX9_init_5 : decode cX9_init 5 = .ok (.bipush 8, 2) := by decide +kernel
theorem dX9_init_7 : decode cX9_init 7 = .ok (.newarray .int, 2) := by decide +kernel
theorem dX9_init_9 : decode cX9_init 9 = .ok (.putfield 7, 3) := by decide +kernel
theorem dX9_init_12 : decode cX9_init 12 = .ok (.aload_n 0, 1) := by decide +kernel
theorem dX9_init_13 : decode cX9_init 13 = .ok (.bipush 8, 2) := by decide +kernel
theorem dX9_init_15 : decode cX9_init 15 = .ok (.newarray .int, 2) := by decide +kernel
theorem dX9_init_17 : decode cX9_init 17 = .ok (.putfield 13, 3) := by decide +kernel
theorem dX9_init_20 : decode cX9_init 20 = .ok (.aload_n 0, 1) := by decide +kernel
theorem dX9_init_21 : decode cX9_init 21 = .ok (.bipush 8, 2) := by decide +kernel
theorem dX9_init_23 : decode cX9_init 23 = .ok (.newarray .int, 2) := by decide +kernel
theorem dX9_init_25 : decode cX9_init 25 = .ok (.putfield 16, 3) := by decide +kernel
theorem dX9_init_28 : decode cX9_init 28 = .ok (.aload_n 0, 1) := by decide +kernel
theorem dX9_init_29 : decode cX9_init 29 = .ok (.bipush 8, 2) := by decide +kernel
theorem dX9_init_31 : decode cX9_init 31 = .ok (.newarray .int, 2) := by decide +kernel
theorem dX9_init_33 : decode cX9_init 33 = .ok (.putfield 19, 3) := by decide +kernel
theorem dX9_init_36 : decode cX9_init 36 = .ok (.aload_n 0, 1) := by decide +kernel
theorem dX9_init_37 : decode cX9_init 37 = .ok (.bipush 12, 2) := by decide +kernel
theorem dX9_init_39 : decode cX9_init 39 = .ok (.newarray .int, 2) := by decide +kernel
theorem dX9_init_41 : decode cX9_init 41 = .ok (.putfield 22, 3) := by decide +kernel
theorem dX9_init_44 : decode cX9_init 44 = .ok (.aload_n 0, 1) := by decide +kernel
theorem dX9_init_45 : decode cX9_init 45 = .ok (.bipush 12, 2) := by decide +kernel
theorem dX9_init_47 : decode cX9_init 47 = .ok (.newarray .int, 2) := by decide +kernel
theorem dX9_init_49 : decode cX9_init 49 = .ok (.putfield 25, 3) := by decide +kernel
theorem dX9_init_52 : decode cX9_init 52 = .ok (.aload_n 0, 1) := by decide +kernel
theorem dX9_init_53 : decode cX9_init 53 = .ok (.bipush 12, 2) := by decide +kernel
theorem dX9_init_55 : decode cX9_init 55 = .ok (.newarray .int, 2) := by decide +kernel
theorem dX9_init_57 : decode cX9_init 57 = .ok (.putfield 28, 3) := by decide +kernel
theorem dX9_init_60 : decode cX9_init 60 = .ok (.aload_n 0, 1) := by decide +kernel
theorem dX9_init_61 : decode cX9_init 61 = .ok (.bipush 12, 2) := by decide +kernel
theorem dX9_init_63 : decode cX9_init 63 = .ok (.newarray .int, 2) := by decide +kernel
theorem dX9_init_65 : decode cX9_init 65 = .ok (.putfield 31, 3) := by decide +kernel
theorem dX9_init_68 : decode cX9_init 68 = .ok (.aload_n 0, 1) := by decide +kernel
theorem dX9_init_69 : decode cX9_init 69 = .ok (.iconst 2, 1) := by decide +kernel
theorem dX9_init_70 : decode cX9_init 70 = .ok (.putfield 34, 3) := by decide +kernel
theorem dX9_init_73 : decode cX9_init 73 = .ok (.aload_n 0, 1) := by decide +kernel
theorem dX9_init_74 : decode cX9_init 74 = .ok (.iconst 1, 1) := by decide +kernel
theorem dX9_init_75 : decode cX9_init 75 = .ok (.putfield 38, 3) := by decide +kernel
theorem dX9_init_78 : decode cX9_init 78 = .ok (.aload_n 0, 1) := by decide +kernel
theorem dX9_init_79 : decode cX9_init 79 = .ok (.bipush 9, 2) := by decide +kernel
theorem dX9_init_81 : decode cX9_init 81 = .ok (.newarray .int, 2) := by decide +kernel
theorem dX9_init_83 : decode cX9_init 83 = .ok (.putfield 41, 3) := by decide +kernel
theorem dX9_init_86 : decode cX9_init 86 = .ok (.aload_n 0, 1) := by decide +kernel
theorem dX9_init_87 : decode cX9_init 87 = .ok (.bipush 72, 2) := by decide +kernel
theorem dX9_init_89 : decode cX9_init 89 = .ok (.newarray .int, 2) := by decide +kernel
theorem dX9_init_91 : decode cX9_init 91 = .ok (.putfield 44, 3) := by decide +kernel
theorem dX9_init_94 : decode cX9_init 94 = .ok (.aload_n 0, 1) := by decide +kernel
theorem dX9_init_95 : decode cX9_init 95 = .ok (.bipush 72, 2) := by decide +kernel
theorem dX9_init_97 : decode cX9_init 97 = .ok (.newarray .int, 2) := by decide +kernel
theorem dX9_init_99 : decode cX9_init 99 = .ok (.putfield 47, 3) := by decide +kernel
theorem dX9_init_102 : decode cX9_init 102 = .ok (.aload_n 0, 1) := by decide +kernel
theorem dX9_init_103 : decode cX9_init 103 = .ok (.bipush 72, 2) := by decide +kernel
theorem dX9_init_105 : decode cX9_init 105 = .ok (.newarray .int, 2) := by decide +kernel
theorem dX9_init_107 : decode cX9_init 107 = .ok (.putfield 50, 3) := by decide +kernel
theorem dX9_init_110 : decode cX9_init 110 = .ok (.aload_n 0, 1) := by decide +kernel
theorem dX9_init_111 : decode cX9_init 111 = .ok (.bipush 27, 2) := by decide +kernel
theorem dX9_init_113 : decode cX9_init 113 = .ok (.newarray .int, 2) := by decide +kernel
theorem dX9_init_115 : decode cX9_init 115 = .ok (.putfield 53, 3) := by decide +kernel
theorem dX9_init_118 : decode cX9_init 118 = .ok (.aload_n 0, 1) := by decide +kernel
theorem dX9_init_119 : decode cX9_init 119 = .ok (.bipush 9, 2) := by decide +kernel
theorem dX9_init_121 : decode cX9_init 121 = .ok (.newarray .int, 2) := by decide +kernel
theorem dX9_init_123 : decode cX9_init 123 = .ok (.putfield 56, 3) := by decide +kernel
theorem dX9_init_126 : decode cX9_init 126 = .ok (.aload_n 0, 1) := by decide +kernel
theorem dX9_init_127 : decode cX9_init 127 = .ok (.bipush 9, 2) := by decide +kernel
theorem dX9_init_129 : decode cX9_init 129 = .ok (.newarray .int, 2) := by decide +kernel
theorem dX9_init_131 : decode cX9_init 131 = .ok (.putfield 59, 3) := by decide +kernel
theorem dX9_init_134 : decode cX9_init 134 = .ok (.aload_n 0, 1) := by decide +kernel
theorem dX9_init_135 : decode cX9_init 135 = .ok (.bipush 9, 2) := by decide +kernel
theorem dX9_init_137 : decode cX9_init 137 = .ok (.newarray .int, 2) := by decide +kernel
theorem dX9_init_139 : decode cX9_init 139 = .ok (.putfield 62, 3) := by decide +kernel
theorem dX9_init_142 : decode cX9_init 142 = .ok (.aload_n 0, 1) := by decide +kernel
theorem dX9_init_143 : decode cX9_init 143 = .ok (.bipush 9, 2) := by decide +kernel
theorem dX9_init_145 : decode cX9_init 145 = .ok (.newarray .long, 2) := by decide +kernel
theorem dX9_init_147 : decode cX9_init 147 = .ok (.putfield 65, 3) := by decide +kernel
theorem dX9_init_150 : decode cX9_init 150 = .ok (.aload_n 0, 1) := by decide +kernel
theorem dX9_init_151 : decode cX9_init 151 = .ok (.iconst 2, 1) := by decide +kernel
theorem dX9_init_152 : decode cX9_init 152 = .ok (.putfield 69, 3) := by decide +kernel
theorem dX9_init_155 : decode cX9_init 155 = .ok (.aload_n 0, 1) := by decide +kernel
theorem dX9_init_156 : decode cX9_init 156 = .ok (.bipush 8, 2) := by decide +kernel
theorem dX9_init_158 : decode cX9_init 158 = .ok (.newarray .int, 2) := by decide +kernel
theorem dX9_init_160 : decode cX9_init 160 = .ok (.putfield 72, 3) := by decide +kernel
theorem dX9_init_163 : decode cX9_init 163 = .ok (.aload_n 0, 1) := by decide +kernel
theorem dX9_init_164 : decode cX9_init 164 = .ok (.bipush 8, 2) := by decide +kernel
theorem dX9_init_166 : decode cX9_init 166 = .ok (.newarray .int, 2) := by decide +kernel
theorem dX9_init_168 : decode cX9_init 168 = .ok (.putfield 75, 3) := by decide +kernel
theorem dX9_init_171 : decode cX9_init 171 = .ok (.aload_n 0, 1) := by decide +kernel
theorem dX9_init_172 : decode cX9_init 172 = .ok (.bipush 8, 2) := by decide +kernel
theorem dX9_init_174 : decode cX9_init 174 = .ok (.newarray .int, 2) := by decide +kernel
theorem dX9_init_176 : decode cX9_init 176 = .ok (.putfield 78, 3) := by decide +kernel
theorem dX9_init_179 : decode cX9_init 179 = .ok (.aload_n 0, 1) := by decide +kernel
theorem dX9_init_180 : decode cX9_init 180 = .ok (.bipush 8, 2) := by decide +kernel
theorem dX9_init_182 : decode cX9_init 182 = .ok (.newarray .int, 2) := by decide +kernel
theorem dX9_init_184 : decode cX9_init 184 = .ok (.putfield 81, 3) := by decide +kernel
theorem dX9_init_187 : decode cX9_init 187 = .ok (.aload_n 0, 1) := by decide +kernel
theorem dX9_init_188 : decode cX9_init 188 = .ok (.sipush 1280, 3) := by decide +kernel
theorem dX9_init_191 : decode cX9_init 191 = .ok (.newarray .long, 2) := by decide +kernel
theorem dX9_init_193 : decode cX9_init 193 = .ok (.putfield 84, 3) := by decide +kernel
theorem dX9_init_196 : decode cX9_init 196 = .ok (.aload_n 0, 1) := by decide +kernel
theorem dX9_init_197 : decode cX9_init 197 = .ok (.sipush 160, 3) := by decide +kernel
theorem dX9_init_200 : decode cX9_init 200 = .ok (.newarray .long, 2) := by decide +kernel
theorem dX9_init_202 : decode cX9_init 202 = .ok (.putfield 87, 3) := by decide +kernel
theorem dX9_init_205 : decode cX9_init 205 = .ok (.aload_n 0, 1) := by decide +kernel
theorem dX9_init_206 : decode cX9_init 206 = .ok (.iconst (-1), 1) := by decide +kernel
theorem dX9_init_207 : decode cX9_init 207 = .ok (.putfield 90, 3) := by decide +kernel
theorem dX9_init_210 : decode cX9_init 210 = .ok (.aload_n 0, 1) := by decide +kernel
theorem dX9_init_211 : decode cX9_init 211 = .ok (.sipush 400, 3) := by decide +kernel
theorem dX9_init_214 : decode cX9_init 214 = .ok (.newarray .int, 2) := by decide +kernel
theorem dX9_init_216 : decode cX9_init 216 = .ok (.putfield 93, 3) := by decide +kernel
theorem dX9_init_219 : decode cX9_init 219 = .ok (.aload_n 0, 1) := by decide +kernel
theorem dX9_init_220 : decode cX9_init 220 = .ok (.bipush 6, 2) := by decide +kernel
theorem dX9_init_222 : decode cX9_init 222 = .ok (.newarray .int, 2) := by decide +kernel
theorem dX9_init_224 : decode cX9_init 224 = .ok (.putfield 96, 3) := by decide +kernel
theorem dX9_init_227 : decode cX9_init 227 = .ok (.aload_n 0, 1) := by decide +kernel
theorem dX9_init_228 : decode cX9_init 228 = .ok (.bipush 20, 2) := by decide +kernel
theorem dX9_init_230 : decode cX9_init 230 = .ok (.newarray .int, 2) := by decide +kernel
theorem dX9_init_232 : decode cX9_init 232 = .ok (.putfield 99, 3) := by decide +kernel
theorem dX9_init_235 : decode cX9_init 235 = .ok (.aload_n 0, 1) := by decide +kernel
theorem dX9_init_236 : decode cX9_init 236 = .ok (.getfield 41, 3) := by decide +kernel
theorem dX9_init_239 : decode cX9_init 239 = .ok (.iconst 0, 1) := by decide +kernel
theorem dX9_init_240 : decode cX9_init 240 = .ok (.iconst (-1), 1) := by decide +kernel
theorem dX9_init_241 : decode cX9_init 241 = .ok (.iastore, 1) := by decide +kernel
theorem dX9_init_242 : decode cX9_init 242 = .ok (.iconst 0, 1) := by decide +kernel
theorem dX9_init_243 : decode cX9_init 243 = .ok (.istore_n 1, 1) := by decide +kernel
theorem dX9_init_244 : decode cX9_init 244 = .ok (.iload_n 1, 1) := by decide +kernel
theorem dX9_init_245 : decode cX9_init 245 = .ok (.bipush 8, 2) := by decide +kernel
theorem dX9_init_247 : decode cX9_init 247 = .ok (.if_icmp .ge 16, 3) := by decide +kernel
theorem dX9_init_250 : decode cX9_init 250 = .ok (.aload_n 0, 1) := by decide +kernel
theorem dX9_init_251 : decode cX9_init 251 = .ok (.getfield 75, 3) := by decide +kernel
theorem dX9_init_254 : decode cX9_init 254 = .ok (.iload_n 1, 1) := by decide +kernel
theorem dX9_init_255 : decode cX9_init 255 = .ok (.iconst (-1), 1) := by decide +kernel
theorem dX9_init_256 : decode cX9_init 256 = .ok (.iastore, 1) := by decide +kernel
theorem dX9_init_257 : decode cX9_init 257 = .ok (.iinc 1 1, 3) := by decide +kernel
theorem dX9_init_260 : decode cX9_init 260 = .ok (.goto (-16), 3) := by decide +kernel
theorem dX9_init_263 : decode cX9_init 263 = .ok (.return_, 1) := by decide +kernel
theorem dX9_no_0 : decode cX9_no 0 = .ok (.aload_n 0, 1) := by decide +kernel
theorem dX9_no_1 : decode cX9_no 1 = .ok (.getfield 7, 3) := by decide +kernel
theorem dX9_no_4 : decode cX9_no 4 = .ok (.iload_n 1, 1) := by decide +kernel
theorem dX9_no_5 : decode cX9_no 5 = .ok (.ineg, 1) := by decide +kernel
theorem dX9_no_6 : decode cX9_no 6 = .ok (.dup2, 1) := by decide +kernel
theorem dX9_no_7 : decode cX9_no 7 = .ok (.iaload, 1) := by decide +kernel
theorem dX9_no_8 : decode cX9_no 8 = .ok (.iconst 1, 1) := by decide +kernel
theorem dX9_no_9 : decode cX9_no 9 = .ok (.iadd, 1) := by decide +kernel
theorem dX9_no_10 : decode cX9_no 10 = .ok (.iastore, 1) := by decide +kernel
theorem dX9_no_11 : decode cX9_no 11 = .ok (.iload_n 1, 1) := by decide +kernel
theorem dX9_no_12 : decode cX9_no 12 = .ok (.ireturn, 1) := by decide +kernel
theorem dX9_noTen_0 : decode cX9_noTen 0 = .ok (.aload_n 0, 1) := by decide +kernel
theorem dX9_noTen_1 : decode cX9_noTen 1 = .ok (.getfield 7, 3) := by decide +kernel
theorem dX9_noTen_4 : decode cX9_noTen 4 = .ok (.iload_n 1, 1) := by decide +kernel
theorem dX9_noTen_5 : decode cX9_noTen 5 = .ok (.ineg, 1) := by decide +kernel
theorem dX9_noTen_6 : decode cX9_noTen 6 = .ok (.dup2, 1) := by decide +kernel
theorem dX9_noTen_7 : decode cX9_noTen 7 = .ok (.iaload, 1) := by decide +kernel
theorem dX9_noTen_8 : decode cX9_noTen 8 = .ok (.iconst 1, 1) := by decide +kernel
theorem dX9_noTen_9 : decode cX9_noTen 9 = .ok (.iadd, 1) := by decide +kernel
theorem dX9_noTen_10 : decode cX9_noTen 10 = .ok (.iastore, 1) := by decide +kernel
theorem dX9_noTen_11 : decode cX9_noTen 11 = .ok (.iload_n 1, 1) := by decide +kernel
theorem dX9_noTen_12 : decode cX9_noTen 12 = .ok (.bipush 10, 2) := by decide +kernel
theorem dX9_noTen_14 : decode cX9_noTen 14 = .ok (.isub, 1) := by decide +kernel
theorem dX9_noTen_15 : decode cX9_noTen 15 = .ok (.ireturn, 1) := by decide +kernel
theorem dX9_isIn_0 : decode cX9_isIn 0 = .ok (.iload_n 0, 1) := by decide +kernel
theorem dX9_isIn_1 : decode cX9_isIn 1 = .ok (.iload_n 1, 1) := by decide +kernel
theorem dX9_isIn_2 : decode cX9_isIn 2 = .ok (.if_icmp .lt 12, 3) := by decide +kernel
theorem dX9_isIn_5 : decode cX9_isIn 5 = .ok (.iload_n 0, 1) := by decide +kernel
theorem dX9_isIn_6 : decode cX9_isIn 6 = .ok (.iload_n 2, 1) := by decide +kernel
theorem dX9_isIn_7 : decode cX9_isIn 7 = .ok (.if_icmp .gt 7, 3) := by decide +kernel
theorem dX9_isIn_10 : decode cX9_isIn 10 = .ok (.iconst 1, 1) := by decide +kernel
theorem dX9_isIn_11 : decode cX9_isIn 11 = .ok (.goto 4, 3) := by decide +kernel
theorem dX9_isIn_14 : decode cX9_isIn 14 = .ok (.iconst 0, 1) := by decide +kernel
theorem dX9_isIn_15 : decode cX9_isIn 15 = .ok (.ireturn, 1) := by decide +kernel
theorem dX9_isSet_0 : decode cX9_isSet 0 = .ok (.iload_n 0, 1) := by decide +kernel
theorem dX9_isSet_1 : decode cX9_isSet 1 = .ok (.ifCond .lt 14, 3) := by decide +kernel
theorem dX9_isSet_4 : decode cX9_isSet 4 = .ok (.iload_n 0, 1) := by decide +kernel
theorem dX9_isSet_5 : decode cX9_isSet 5 = .ok (.sipush 256, 3) := by decide +kernel
theorem dX9_isSet_8 : decode cX9_isSet 8 = .ok (.if_icmp .ge 7, 3) := by decide +kernel
theorem dX9_isSet_11 : decode cX9_isSet 11 = .ok (.iconst 1, 1) := by decide +kernel
theorem dX9_isSet_12 : decode cX9_isSet 12 = .ok (.goto 4, 3) := by decide +kernel
theorem dX9_isSet_15 : decode cX9_isSet 15 = .ok (.iconst 0, 1) := by decide +kernel
theorem dX9_isSet_16 : decode cX9_isSet 16 = .ok (.ireturn, 1) := by decide +kernel
theorem dX9_isHouse_0 : decode cX9_isHouse 0 = .ok (.iload_n 1, 1) := by decide +kernel
theorem dX9_isHouse_1 : decode cX9_isHouse 1 = .ok (.ifCond .lt 15, 3) := by decide +kernel
theorem dX9_isHouse_4 : decode cX9_isHouse 4 = .ok (.iload_n 1, 1) := by decide +kernel
theorem dX9_isHouse_5 : decode cX9_isHouse 5 = .ok (.aload_n 0, 1) := by decide +kernel
theorem dX9_isHouse_6 : decode cX9_isHouse 6 = .ok (.getfield 102, 3) := by decide +kernel
theorem dX9_isHouse_9 : decode cX9_isHouse 9 = .ok (.if_icmp .ge 7, 3) := by decide +kernel
theorem dX9_isHouse_12 : decode cX9_isHouse 12 = .ok (.iconst 1, 1) := by decide +kernel
theorem dX9_isHouse_13 : decode cX9_isHouse 13 = .ok (.goto 4, 3) := by decide +kernel
theorem dX9_isHouse_16 : decode cX9_isHouse 16 = .ok (.iconst 0, 1) := by decide +kernel
theorem dX9_isHouse_17 : decode cX9_isHouse 17 = .ok (.ireturn, 1) := by decide +kernel
theorem dX9_isWay_0 : decode cX9_isWay 0 = .ok (.iload_n 1, 1) := by decide +kernel
theorem dX9_isWay_1 : decode cX9_isWay 1 = .ok (.ifCond .lt 15, 3) := by decide +kernel
theorem dX9_isWay_4 : decode cX9_isWay 4 = .ok (.iload_n 1, 1) := by decide +kernel
theorem dX9_isWay_5 : decode cX9_isWay 5 = .ok (.aload_n 0, 1) := by decide +kernel
theorem dX9_isWay_6 : decode cX9_isWay 6 = .ok (.getfield 105, 3) := by decide +kernel
theorem dX9_isWay_9 : decode cX9_isWay 9 = .ok (.if_icmp .ge 7, 3) := by decide +kernel
theorem dX9_isWay_12 : decode cX9_isWay 12 = .ok (.iconst 1, 1) := by decide +kernel
theorem dX9_isWay_13 : decode cX9_isWay 13 = .ok (.goto 4, 3) := by decide +kernel
theorem dX9_isWay_16 : decode cX9_isWay 16 = .ok (.iconst 0, 1) := by decide +kernel
theorem dX9_isWay_17 : decode cX9_isWay 17 = .ok (.ireturn, 1) := by decide +kernel
theorem dX9_isOpen_0 : decode cX9_isOpen 0 = .ok (.aload_n 0, 1) := by decide +kernel
theorem dX9_isOpen_1 : decode cX9_isOpen 1 = .ok (.getfield 31, 3) := by decide +kernel
theorem dX9_isOpen_4 : decode cX9_isOpen 4 = .ok (.iload_n 1, 1) := by decide +kernel
theorem dX9_isOpen_5 : decode cX9_isOpen 5 = .ok (.iaload, 1) := by decide +kernel
theorem dX9_isOpen_6 : decode cX9_isOpen 6 = .ok (.ifCond .ne 18, 3) := by decide +kernel
theorem dX9_isOpen_9 : decode cX9_isOpen 9 = .ok (.aload_n 0, 1) := by decide +kernel
theorem dX9_isOpen_10 : decode cX9_isOpen 10 = .ok (.getfield 108, 3) := by decide +kernel
theorem dX9_isOpen_13 : decode cX9_isOpen 13 = .ok (.iload_n 1, 1) := by decide +kernel
theorem dX9_isOpen_14 : decode cX9_isOpen 14 = .ok (.ishr, 1) := by decide +kernel
theorem dX9_isOpen_15 : decode cX9_isOpen 15 = .ok (.iconst 1, 1) := by decide +kernel
theorem dX9_isOpen_16 : decode cX9_isOpen 16 = .ok (.iand, 1) := by decide +kernel
theorem dX9_isOpen_17 : decode cX9_isOpen 17 = .ok (.ifCond .ne 7, 3) := by decide +kernel
theorem dX9_isOpen_20 : decode cX9_isOpen 20 = .ok (.iconst 1, 1) := by decide +kernel
theorem dX9_isOpen_21 : decode cX9_isOpen 21 = .ok (.goto 4, 3) := by decide +kernel
theorem dX9_isOpen_24 : decode cX9_isOpen 24 = .ok (.iconst 0, 1) := by decide +kernel
theorem dX9_isOpen_25 : decode cX9_isOpen 25 = .ok (.ireturn, 1) := by decide +kernel
theorem dX9_speaksNext_0 : decode cX9_speaksNext 0 = .ok (.aload_n 0, 1) := by decide +kernel
theorem dX9_speaksNext_1 : decode cX9_speaksNext 1 = .ok (.getfield 56, 3) := by decide +kernel
theorem dX9_speaksNext_4 : decode cX9_speaksNext 4 = .ok (.iload_n 1, 1) := by decide +kernel
theorem dX9_speaksNext_5 : decode cX9_speaksNext 5 = .ok (.iaload, 1) := by decide +kernel
theorem dX9_speaksNext_6 : decode cX9_speaksNext 6 = .ok (.aload_n 0, 1) := by decide +kernel
theorem dX9_speaksNext_7 : decode cX9_speaksNext 7 = .ok (.getfield 69, 3) := by decide +kernel
theorem dX9_speaksNext_10 : decode cX9_speaksNext 10 = .ok (.if_icmp .lt 21, 3) := by decide +kernel
theorem dX9_speaksNext_13 : decode cX9_speaksNext 13 = .ok (.aload_n 0, 1) := by decide +kernel
theorem dX9_speaksNext_14 : decode cX9_speaksNext 14 = .ok (.getfield 53, 3) := by decide +kernel
theorem dX9_speaksNext_17 : decode cX9_speaksNext 17 = .ok (.iconst 3, 1) := by decide +kernel
theorem dX9_speaksNext_18 : decode cX9_speaksNext 18 = .ok (.iload_n 1, 1) := by decide +kernel
theorem dX9_speaksNext_19 : decode cX9_speaksNext 19 = .ok (.imul, 1) := by decide +kernel
theorem dX9_speaksNext_20 : decode cX9_speaksNext 20 = .ok (.aload_n 0, 1) := by decide +kernel
theorem dX9_speaksNext_21 : decode cX9_speaksNext 21 = .ok (.getfield 69, 3) := by decide +kernel
theorem dX9_speaksNext_24 : decode cX9_speaksNext 24 = .ok (.iadd, 1) := by decide +kernel
theorem dX9_speaksNext_25 : decode cX9_speaksNext 25 = .ok (.iconst 1, 1) := by decide +kernel
theorem dX9_speaksNext_26 : decode cX9_speaksNext 26 = .ok (.isub, 1) := by decide +kernel
theorem dX9_speaksNext_27 : decode cX9_speaksNext 27 = .ok (.iaload, 1) := by decide +kernel
theorem dX9_speaksNext_28 : decode cX9_speaksNext 28 = .ok (.goto 4, 3) := by decide +kernel
theorem dX9_speaksNext_31 : decode cX9_speaksNext 31 = .ok (.iconst 0, 1) := by decide +kernel
theorem dX9_speaksNext_32 : decode cX9_speaksNext 32 = .ok (.ireturn, 1) := by decide +kernel
theorem dX9_answerOf_0 : decode cX9_answerOf 0 = .ok (.aload_n 0, 1) := by decide +kernel
theorem dX9_answerOf_1 : decode cX9_answerOf 1 = .ok (.getfield 16, 3) := by decide +kernel
theorem dX9_answerOf_4 : decode cX9_answerOf 4 = .ok (.iload_n 2, 1) := by decide +kernel
theorem dX9_answerOf_5 : decode cX9_answerOf 5 = .ok (.iaload, 1) := by decide +kernel
theorem dX9_answerOf_6 : decode cX9_answerOf 6 = .ok (.istore 4, 2) := by decide +kernel
theorem dX9_answerOf_8 : decode cX9_answerOf 8 = .ok (.aload_n 0, 1) := by decide +kernel
theorem dX9_answerOf_9 : decode cX9_answerOf 9 = .ok (.getfield 13, 3) := by decide +kernel
theorem dX9_answerOf_12 : decode cX9_answerOf 12 = .ok (.iload_n 2, 1) := by decide +kernel
theorem dX9_answerOf_13 : decode cX9_answerOf 13 = .ok (.iaload, 1) := by decide +kernel
theorem dX9_answerOf_14 : decode cX9_answerOf 14 = .ok (.tableswitch 157 1 6 #[38, 40, 55, 72, 93, 130], 38) := by decide +kernel
theorem dX9_answerOf_52 : decode cX9_answerOf 52 = .ok (.iconst 0, 1) := by decide +kernel
theorem dX9_answerOf_53 : decode cX9_answerOf 53 = .ok (.ireturn, 1) := by decide +kernel
theorem dX9_answerOf_54 : decode cX9_answerOf 54 = .ok (.iload 4, 2) := by decide +kernel
theorem dX9_answerOf_56 : decode cX9_answerOf 56 = .ok (.aload_n 0, 1) := by decide +kernel
theorem dX9_answerOf_57 : decode cX9_answerOf 57 = .ok (.getfield 44, 3) := by decide +kernel
theorem dX9_answerOf_60 : decode cX9_answerOf 60 = .ok (.bipush 8, 2) := by decide +kernel
theorem dX9_answerOf_62 : decode cX9_answerOf 62 = .ok (.iload_n 1, 1) := by decide +kernel
theorem dX9_answerOf_63 : decode cX9_answerOf 63 = .ok (.imul, 1) := by decide +kernel
theorem dX9_answerOf_64 : decode cX9_answerOf 64 = .ok (.iload_n 2, 1) := by decide +kernel
theorem dX9_answerOf_65 : decode cX9_answerOf 65 = .ok (.iadd, 1) := by decide +kernel
theorem dX9_answerOf_66 : decode cX9_answerOf 66 = .ok (.iaload, 1) := by decide +kernel
theorem dX9_answerOf_67 : decode cX9_answerOf 67 = .ok (.ior, 1) := by decide +kernel
theorem dX9_answerOf_68 : decode cX9_answerOf 68 = .ok (.ireturn, 1) := by decide +kernel
theorem dX9_answerOf_69 : decode cX9_answerOf 69 = .ok (.iload 4, 2) := by decide +kernel
theorem dX9_answerOf_71 : decode cX9_answerOf 71 = .ok (.aload_n 0, 1) := by decide +kernel
theorem dX9_answerOf_72 : decode cX9_answerOf 72 = .ok (.getfield 44, 3) := by decide +kernel
theorem dX9_answerOf_75 : decode cX9_answerOf 75 = .ok (.bipush 8, 2) := by decide +kernel
theorem dX9_answerOf_77 : decode cX9_answerOf 77 = .ok (.iload_n 1, 1) := by decide +kernel
theorem dX9_answerOf_78 : decode cX9_answerOf 78 = .ok (.imul, 1) := by decide +kernel
theorem dX9_answerOf_79 : decode cX9_answerOf 79 = .ok (.iload_n 2, 1) := by decide +kernel
theorem dX9_answerOf_80 : decode cX9_answerOf 80 = .ok (.iadd, 1) := by decide +kernel
theorem dX9_answerOf_81 : decode cX9_answerOf 81 = .ok (.iaload, 1) := by decide +kernel
theorem dX9_answerOf_82 : decode cX9_answerOf 82 = .ok (.ior, 1) := by decide +kernel
theorem dX9_answerOf_83 : decode cX9_answerOf 83 = .ok (.iload_n 3, 1) := by decide +kernel
theorem dX9_answerOf_84 : decode cX9_answerOf 84 = .ok (.ior, 1) := by decide +kernel
theorem dX9_answerOf_85 : decode cX9_answerOf 85 = .ok (.ireturn, 1) := by decide +kernel
theorem dX9_answerOf_86 : decode cX9_answerOf 86 = .ok (.iload_n 3, 1) := by decide +kernel
theorem dX9_answerOf_87 : decode cX9_answerOf 87 = .ok (.ifCond .eq 17, 3) := by decide +kernel
theorem dX9_answerOf_90 : decode cX9_answerOf 90 = .ok (.iload 4, 2) := by decide +kernel
theorem dX9_answerOf_92 : decode cX9_answerOf 92 = .ok (.aload_n 0, 1) := by decide +kernel
theorem dX9_answerOf_93 : decode cX9_answerOf 93 = .ok (.getfield 19, 3) := by decide +kernel
theorem dX9_answerOf_96 : decode cX9_answerOf 96 = .ok (.iload_n 2, 1) := by decide +kernel
theorem dX9_answerOf_97 : decode cX9_answerOf 97 = .ok (.iaload, 1) := by decide +kernel
theorem dX9_answerOf_98 : decode cX9_answerOf 98 = .ok (.iconst (-1), 1) := by decide +kernel
theorem dX9_answerOf_99 : decode cX9_answerOf 99 = .ok (.ixor, 1) := by decide +kernel
theorem dX9_answerOf_100 : decode cX9_answerOf 100 = .ok (.iand, 1) := by decide +kernel
theorem dX9_answerOf_101 : decode cX9_answerOf 101 = .ok (.goto 5, 3) := by decide +kernel
theorem dX9_answerOf_104 : decode cX9_answerOf 104 = .ok (.iload 4, 2) := by decide +kernel
theorem dX9_answerOf_106 : decode cX9_answerOf 106 = .ok (.ireturn, 1) := by decide +kernel
theorem dX9_answerOf_107 : decode cX9_answerOf 107 = .ok (.iload_n 3, 1) := by decide +kernel
theorem dX9_answerOf_108 : decode cX9_answerOf 108 = .ok (.ifCond .eq 17, 3) := by decide +kernel
theorem dX9_answerOf_111 : decode cX9_answerOf 111 = .ok (.iload 4, 2) := by decide +kernel
theorem dX9_answerOf_113 : decode cX9_answerOf 113 = .ok (.aload_n 0, 1) := by decide +kernel
theorem dX9_answerOf_114 : decode cX9_answerOf 114 = .ok (.getfield 19, 3) := by decide +kernel
theorem dX9_answerOf_117 : decode cX9_answerOf 117 = .ok (.iload_n 2, 1) := by decide +kernel
theorem dX9_answerOf_118 : decode cX9_answerOf 118 = .ok (.iaload, 1) := by decide +kernel
theorem dX9_answerOf_119 : decode cX9_answerOf 119 = .ok (.iconst (-1), 1) := by decide +kernel
theorem dX9_answerOf_120 : decode cX9_answerOf 120 = .ok (.ixor, 1) := by decide +kernel
theorem dX9_answerOf_121 : decode cX9_answerOf 121 = .ok (.iand, 1) := by decide +kernel
theorem dX9_answerOf_122 : decode cX9_answerOf 122 = .ok (.goto 5, 3) := by decide +kernel
theorem dX9_answerOf_125 : decode cX9_answerOf 125 = .ok (.iload 4, 2) := by decide +kernel
theorem dX9_answerOf_127 : decode cX9_answerOf 127 = .ok (.istore 5, 2) := by decide +kernel
theorem dX9_answerOf_129 : decode cX9_answerOf 129 = .ok (.iload 5, 2) := by decide +kernel
theorem dX9_answerOf_131 : decode cX9_answerOf 131 = .ok (.iconst 1, 1) := by decide +kernel
theorem dX9_answerOf_132 : decode cX9_answerOf 132 = .ok (.ishl, 1) := by decide +kernel
theorem dX9_answerOf_133 : decode cX9_answerOf 133 = .ok (.iload 5, 2) := by decide +kernel
theorem dX9_answerOf_135 : decode cX9_answerOf 135 = .ok (.bipush 7, 2) := by decide +kernel
theorem dX9_answerOf_137 : decode cX9_answerOf 137 = .ok (.ishr, 1) := by decide +kernel
theorem dX9_answerOf_138 : decode cX9_answerOf 138 = .ok (.ior, 1) := by decide +kernel
theorem dX9_answerOf_139 : decode cX9_answerOf 139 = .ok (.sipush 255, 3) := by decide +kernel
theorem dX9_answerOf_142 : decode cX9_answerOf 142 = .ok (.iand, 1) := by decide +kernel
theorem dX9_answerOf_143 : decode cX9_answerOf 143 = .ok (.ireturn, 1) := by decide +kernel
theorem dX9_answerOf_144 : decode cX9_answerOf 144 = .ok (.aload_n 0, 1) := by decide +kernel
theorem dX9_answerOf_145 : decode cX9_answerOf 145 = .ok (.getfield 47, 3) := by decide +kernel
theorem dX9_answerOf_148 : decode cX9_answerOf 148 = .ok (.bipush 8, 2) := by decide +kernel
theorem dX9_answerOf_150 : decode cX9_answerOf 150 = .ok (.iload_n 1, 1) := by decide +kernel
theorem dX9_answerOf_151 : decode cX9_answerOf 151 = .ok (.imul, 1) := by decide +kernel
theorem dX9_answerOf_152 : decode cX9_answerOf 152 = .ok (.iload_n 2, 1) := by decide +kernel
theorem dX9_answerOf_153 : decode cX9_answerOf 153 = .ok (.iadd, 1) := by decide +kernel
theorem dX9_answerOf_154 : decode cX9_answerOf 154 = .ok (.iaload, 1) := by decide +kernel
theorem dX9_answerOf_155 : decode cX9_answerOf 155 = .ok (.aload_n 0, 1) := by decide +kernel
theorem dX9_answerOf_156 : decode cX9_answerOf 156 = .ok (.getfield 19, 3) := by decide +kernel
theorem dX9_answerOf_159 : decode cX9_answerOf 159 = .ok (.iload_n 2, 1) := by decide +kernel
theorem dX9_answerOf_160 : decode cX9_answerOf 160 = .ok (.iaload, 1) := by decide +kernel
theorem dX9_answerOf_161 : decode cX9_answerOf 161 = .ok (.if_icmp .lt 8, 3) := by decide +kernel
theorem dX9_answerOf_164 : decode cX9_answerOf 164 = .ok (.iload 4, 2) := by decide +kernel
theorem dX9_answerOf_166 : decode cX9_answerOf 166 = .ok (.goto 4, 3) := by decide +kernel
theorem dX9_answerOf_169 : decode cX9_answerOf 169 = .ok (.iconst 0, 1) := by decide +kernel
theorem dX9_answerOf_170 : decode cX9_answerOf 170 = .ok (.ireturn, 1) := by decide +kernel
theorem dX9_answerOf_171 : decode cX9_answerOf 171 = .ok (.iload 4, 2) := by decide +kernel
theorem dX9_answerOf_173 : decode cX9_answerOf 173 = .ok (.ireturn, 1) := by decide +kernel
theorem dX9_visits_0 : decode cX9_visits 0 = .ok (.aload_n 0, 1) := by decide +kernel
theorem dX9_visits_1 : decode cX9_visits 1 = .ok (.iload_n 1, 1) := by decide +kernel
theorem dX9_visits_2 : decode cX9_visits 2 = .ok (.invokevirtual 111, 3) := by decide +kernel
theorem dX9_visits_5 : decode cX9_visits 5 = .ok (.istore_n 3, 1) := by decide +kernel
theorem dX9_visits_6 : decode cX9_visits 6 = .ok (.aload_n 0, 1) := by decide +kernel
theorem dX9_visits_7 : decode cX9_visits 7 = .ok (.iload_n 1, 1) := by decide +kernel
theorem dX9_visits_8 : decode cX9_visits 8 = .ok (.iload_n 2, 1) := by decide +kernel
theorem dX9_visits_9 : decode cX9_visits 9 = .ok (.iload_n 3, 1) := by decide +kernel
theorem dX9_visits_10 : decode cX9_visits 10 = .ok (.invokevirtual 115, 3) := by decide +kernel
theorem dX9_visits_13 : decode cX9_visits 13 = .ok (.istore 4, 2) := by decide +kernel
theorem dX9_visits_15 : decode cX9_visits 15 = .ok (.aload_n 0, 1) := by decide +kernel
theorem dX9_visits_16 : decode cX9_visits 16 = .ok (.getfield 44, 3) := by decide +kernel
theorem dX9_visits_19 : decode cX9_visits 19 = .ok (.bipush 8, 2) := by decide +kernel
theorem dX9_visits_21 : decode cX9_visits 21 = .ok (.iload_n 1, 1) := by decide +kernel
theorem dX9_visits_22 : decode cX9_visits 22 = .ok (.imul, 1) := by decide +kernel
theorem dX9_visits_23 : decode cX9_visits 23 = .ok (.iload_n 2, 1) := by decide +kernel
theorem dX9_visits_24 : decode cX9_visits 24 = .ok (.iadd, 1) := by decide +kernel
theorem dX9_visits_25 : decode cX9_visits 25 = .ok (.dup2, 1) := by decide +kernel
theorem dX9_visits_26 : decode cX9_visits 26 = .ok (.iaload, 1) := by decide +kernel
theorem dX9_visits_27 : decode cX9_visits 27 = .ok (.iload_n 3, 1) := by decide +kernel
theorem dX9_visits_28 : decode cX9_visits 28 = .ok (.ior, 1) := by decide +kernel
theorem dX9_visits_29 : decode cX9_visits 29 = .ok (.iastore, 1) := by decide +kernel
theorem dX9_visits_30 : decode cX9_visits 30 = .ok (.aload_n 0, 1) := by decide +kernel
theorem dX9_visits_31 : decode cX9_visits 31 = .ok (.getfield 50, 3) := by decide +kernel
theorem dX9_visits_34 : decode cX9_visits 34 = .ok (.bipush 8, 2) := by decide +kernel
theorem dX9_visits_36 : decode cX9_visits 36 = .ok (.iload_n 1, 1) := by decide +kernel
theorem dX9_visits_37 : decode cX9_visits 37 = .ok (.imul, 1) := by decide +kernel
theorem dX9_visits_38 : decode cX9_visits 38 = .ok (.iload_n 2, 1) := by decide +kernel
theorem dX9_visits_39 : decode cX9_visits 39 = .ok (.iadd, 1) := by decide +kernel
theorem dX9_visits_40 : decode cX9_visits 40 = .ok (.dup2, 1) := by decide +kernel
theorem dX9_visits_41 : decode cX9_visits 41 = .ok (.iaload, 1) := by decide +kernel
theorem dX9_visits_42 : decode cX9_visits 42 = .ok (.iload_n 3, 1) := by decide +kernel
theorem dX9_visits_43 : decode cX9_visits 43 = .ok (.ior, 1) := by decide +kernel
theorem dX9_visits_44 : decode cX9_visits 44 = .ok (.iastore, 1) := by decide +kernel
theorem dX9_visits_45 : decode cX9_visits 45 = .ok (.aload_n 0, 1) := by decide +kernel
theorem dX9_visits_46 : decode cX9_visits 46 = .ok (.getfield 47, 3) := by decide +kernel
theorem dX9_visits_49 : decode cX9_visits 49 = .ok (.bipush 8, 2) := by decide +kernel
theorem dX9_visits_51 : decode cX9_visits 51 = .ok (.iload_n 1, 1) := by decide +kernel
theorem dX9_visits_52 : decode cX9_visits 52 = .ok (.imul, 1) := by decide +kernel
theorem dX9_visits_53 : decode cX9_visits 53 = .ok (.iload_n 2, 1) := by decide +kernel
theorem dX9_visits_54 : decode cX9_visits 54 = .ok (.iadd, 1) := by decide +kernel
theorem dX9_visits_55 : decode cX9_visits 55 = .ok (.dup2, 1) := by decide +kernel
theorem dX9_visits_56 : decode cX9_visits 56 = .ok (.iaload, 1) := by decide +kernel
theorem dX9_visits_57 : decode cX9_visits 57 = .ok (.iconst 1, 1) := by decide +kernel
theorem dX9_visits_58 : decode cX9_visits 58 = .ok (.iadd, 1) := by decide +kernel
theorem dX9_visits_59 : decode cX9_visits 59 = .ok (.iastore, 1) := by decide +kernel
theorem dX9_visits_60 : decode cX9_visits 60 = .ok (.aload_n 0, 1) := by decide +kernel
theorem dX9_visits_61 : decode cX9_visits 61 = .ok (.getfield 53, 3) := by decide +kernel
theorem dX9_visits_64 : decode cX9_visits 64 = .ok (.iconst 3, 1) := by decide +kernel
theorem dX9_visits_65 : decode cX9_visits 65 = .ok (.iload_n 1, 1) := by decide +kernel
theorem dX9_visits_66 : decode cX9_visits 66 = .ok (.imul, 1) := by decide +kernel
theorem dX9_visits_67 : decode cX9_visits 67 = .ok (.iconst 2, 1) := by decide +kernel
theorem dX9_visits_68 : decode cX9_visits 68 = .ok (.iadd, 1) := by decide +kernel
theorem dX9_visits_69 : decode cX9_visits 69 = .ok (.aload_n 0, 1) := by decide +kernel
theorem dX9_visits_70 : decode cX9_visits 70 = .ok (.getfield 53, 3) := by decide +kernel
theorem dX9_visits_73 : decode cX9_visits 73 = .ok (.iconst 3, 1) := by decide +kernel
theorem dX9_visits_74 : decode cX9_visits 74 = .ok (.iload_n 1, 1) := by decide +kernel
theorem dX9_visits_75 : decode cX9_visits 75 = .ok (.imul, 1) := by decide +kernel
theorem dX9_visits_76 : decode cX9_visits 76 = .ok (.iconst 1, 1) := by decide +kernel
theorem dX9_visits_77 : decode cX9_visits 77 = .ok (.iadd, 1) := by decide +kernel
theorem dX9_visits_78 : decode cX9_visits 78 = .ok (.iaload, 1) := by decide +kernel
theorem dX9_visits_79 : decode cX9_visits 79 = .ok (.iastore, 1) := by decide +kernel
theorem dX9_visits_80 : decode cX9_visits 80 = .ok (.aload_n 0, 1) := by decide +kernel
theorem dX9_visits_81 : decode cX9_visits 81 = .ok (.getfield 53, 3) := by decide +kernel
theorem dX9_visits_84 : decode cX9_visits 84 = .ok (.iconst 3, 1) := by decide +kernel
theorem dX9_visits_85 : decode cX9_visits 85 = .ok (.iload_n 1, 1) := by decide +kernel
theorem dX9_visits_86 : decode cX9_visits 86 = .ok (.imul, 1) := by decide +kernel
theorem dX9_visits_87 : decode cX9_visits 87 = .ok (.iconst 1, 1) := by decide +kernel
theorem dX9_visits_88 : decode cX9_visits 88 = .ok (.iadd, 1) := by decide +kernel
theorem dX9_visits_89 : decode cX9_visits 89 = .ok (.aload_n 0, 1) := by decide +kernel
theorem dX9_visits_90 : decode cX9_visits 90 = .ok (.getfield 53, 3) := by decide +kernel
theorem dX9_visits_93 : decode cX9_visits 93 = .ok (.iconst 3, 1) := by decide +kernel
theorem dX9_visits_94 : decode cX9_visits 94 = .ok (.iload_n 1, 1) := by decide +kernel
theorem dX9_visits_95 : decode cX9_visits 95 = .ok (.imul, 1) := by decide +kernel
theorem dX9_visits_96 : decode cX9_visits 96 = .ok (.iaload, 1) := by decide +kernel
theorem dX9_visits_97 : decode cX9_visits 97 = .ok (.iastore, 1) := by decide +kernel
theorem dX9_visits_98 : decode cX9_visits 98 = .ok (.aload_n 0, 1) := by decide +kernel
theorem dX9_visits_99 : decode cX9_visits 99 = .ok (.getfield 53, 3) := by decide +kernel
theorem dX9_visits_102 : decode cX9_visits 102 = .ok (.iconst 3, 1) := by decide +kernel
theorem dX9_visits_103 : decode cX9_visits 103 = .ok (.iload_n 1, 1) := by decide +kernel
theorem dX9_visits_104 : decode cX9_visits 104 = .ok (.imul, 1) := by decide +kernel
theorem dX9_visits_105 : decode cX9_visits 105 = .ok (.iload 4, 2) := by decide +kernel
theorem dX9_visits_107 : decode cX9_visits 107 = .ok (.iastore, 1) := by decide +kernel
theorem dX9_visits_108 : decode cX9_visits 108 = .ok (.aload_n 0, 1) := by decide +kernel
theorem dX9_visits_109 : decode cX9_visits 109 = .ok (.getfield 56, 3) := by decide +kernel
theorem dX9_visits_112 : decode cX9_visits 112 = .ok (.iload_n 1, 1) := by decide +kernel
theorem dX9_visits_113 : decode cX9_visits 113 = .ok (.dup2, 1) := by decide +kernel
theorem dX9_visits_114 : decode cX9_visits 114 = .ok (.iaload, 1) := by decide +kernel
theorem dX9_visits_115 : decode cX9_visits 115 = .ok (.aload_n 0, 1) := by decide +kernel
theorem dX9_visits_116 : decode cX9_visits 116 = .ok (.getfield 56, 3) := by decide +kernel
theorem dX9_visits_119 : decode cX9_visits 119 = .ok (.iload_n 1, 1) := by decide +kernel
theorem dX9_visits_120 : decode cX9_visits 120 = .ok (.iaload, 1) := by decide +kernel
theorem dX9_visits_121 : decode cX9_visits 121 = .ok (.iconst 3, 1) := by decide +kernel
theorem dX9_visits_122 : decode cX9_visits 122 = .ok (.if_icmp .ge 7, 3) := by decide +kernel
theorem dX9_visits_125 : decode cX9_visits 125 = .ok (.iconst 1, 1) := by decide +kernel
theorem dX9_visits_126 : decode cX9_visits 126 = .ok (.goto 4, 3) := by decide +kernel
theorem dX9_visits_129 : decode cX9_visits 129 = .ok (.iconst 0, 1) := by decide +kernel
theorem dX9_visits_130 : decode cX9_visits 130 = .ok (.iadd, 1) := by decide +kernel
theorem dX9_visits_131 : decode cX9_visits 131 = .ok (.iastore, 1) := by decide +kernel
theorem dX9_visits_132 : decode cX9_visits 132 = .ok (.aload_n 0, 1) := by decide +kernel
theorem dX9_visits_133 : decode cX9_visits 133 = .ok (.getfield 41, 3) := by decide +kernel
theorem dX9_visits_136 : decode cX9_visits 136 = .ok (.iload_n 1, 1) := by decide +kernel
theorem dX9_visits_137 : decode cX9_visits 137 = .ok (.iload_n 2, 1) := by decide +kernel
theorem dX9_visits_138 : decode cX9_visits 138 = .ok (.iastore, 1) := by decide +kernel
theorem dX9_visits_139 : decode cX9_visits 139 = .ok (.aload_n 0, 1) := by decide +kernel
theorem dX9_visits_140 : decode cX9_visits 140 = .ok (.getfield 62, 3) := by decide +kernel
theorem dX9_visits_143 : decode cX9_visits 143 = .ok (.iload_n 1, 1) := by decide +kernel
theorem dX9_visits_144 : decode cX9_visits 144 = .ok (.iload_n 3, 1) := by decide +kernel
theorem dX9_visits_145 : decode cX9_visits 145 = .ok (.iastore, 1) := by decide +kernel
theorem dX9_visits_146 : decode cX9_visits 146 = .ok (.return_, 1) := by decide +kernel
theorem dX9_copies_0 : decode cX9_copies 0 = .ok (.iconst 0, 1) := by decide +kernel
theorem dX9_copies_1 : decode cX9_copies 1 = .ok (.istore_n 3, 1) := by decide +kernel
theorem dX9_copies_2 : decode cX9_copies 2 = .ok (.iload_n 3, 1) := by decide +kernel
theorem dX9_copies_3 : decode cX9_copies 3 = .ok (.bipush 8, 2) := by decide +kernel
theorem dX9_copies_5 : decode cX9_copies 5 = .ok (.if_icmp .ge 75, 3) := by decide +kernel
theorem dX9_copies_8 : decode cX9_copies 8 = .ok (.aload_n 0, 1) := by decide +kernel
theorem dX9_copies_9 : decode cX9_copies 9 = .ok (.getfield 44, 3) := by decide +kernel
theorem dX9_copies_12 : decode cX9_copies 12 = .ok (.bipush 8, 2) := by decide +kernel
theorem dX9_copies_14 : decode cX9_copies 14 = .ok (.iload_n 2, 1) := by decide +kernel
theorem dX9_copies_15 : decode cX9_copies 15 = .ok (.imul, 1) := by decide +kernel
theorem dX9_copies_16 : decode cX9_copies 16 = .ok (.iload_n 3, 1) := by decide +kernel
theorem dX9_copies_17 : decode cX9_copies 17 = .ok (.iadd, 1) := by decide +kernel
theorem dX9_copies_18 : decode cX9_copies 18 = .ok (.aload_n 0, 1) := by decide +kernel
theorem dX9_copies_19 : decode cX9_copies 19 = .ok (.getfield 44, 3) := by decide +kernel
theorem dX9_copies_22 : decode cX9_copies 22 = .ok (.bipush 8, 2) := by decide +kernel
theorem dX9_copies_24 : decode cX9_copies 24 = .ok (.iload_n 1, 1) := by decide +kernel
theorem dX9_copies_25 : decode cX9_copies 25 = .ok (.imul, 1) := by decide +kernel
theorem dX9_copies_26 : decode cX9_copies 26 = .ok (.iload_n 3, 1) := by decide +kernel
theorem dX9_copies_27 : decode cX9_copies 27 = .ok (.iadd, 1) := by decide +kernel
theorem dX9_copies_28 : decode cX9_copies 28 = .ok (.iaload, 1) := by decide +kernel
theorem dX9_copies_29 : decode cX9_copies 29 = .ok (.iastore, 1) := by decide +kernel
theorem dX9_copies_30 : decode cX9_copies 30 = .ok (.aload_n 0, 1) := by decide +kernel
theorem dX9_copies_31 : decode cX9_copies 31 = .ok (.getfield 47, 3) := by decide +kernel
theorem dX9_copies_34 : decode cX9_copies 34 = .ok (.bipush 8, 2) := by decide +kernel
theorem dX9_copies_36 : decode cX9_copies 36 = .ok (.iload_n 2, 1) := by decide +kernel
theorem dX9_copies_37 : decode cX9_copies 37 = .ok (.imul, 1) := by decide +kernel
theorem dX9_copies_38 : decode cX9_copies 38 = .ok (.iload_n 3, 1) := by decide +kernel
theorem dX9_copies_39 : decode cX9_copies 39 = .ok (.iadd, 1) := by decide +kernel
theorem dX9_copies_40 : decode cX9_copies 40 = .ok (.aload_n 0, 1) := by decide +kernel
theorem dX9_copies_41 : decode cX9_copies 41 = .ok (.getfield 47, 3) := by decide +kernel
theorem dX9_copies_44 : decode cX9_copies 44 = .ok (.bipush 8, 2) := by decide +kernel
theorem dX9_copies_46 : decode cX9_copies 46 = .ok (.iload_n 1, 1) := by decide +kernel
theorem dX9_copies_47 : decode cX9_copies 47 = .ok (.imul, 1) := by decide +kernel
theorem dX9_copies_48 : decode cX9_copies 48 = .ok (.iload_n 3, 1) := by decide +kernel
theorem dX9_copies_49 : decode cX9_copies 49 = .ok (.iadd, 1) := by decide +kernel
theorem dX9_copies_50 : decode cX9_copies 50 = .ok (.iaload, 1) := by decide +kernel
theorem dX9_copies_51 : decode cX9_copies 51 = .ok (.iastore, 1) := by decide +kernel
theorem dX9_copies_52 : decode cX9_copies 52 = .ok (.aload_n 0, 1) := by decide +kernel
theorem dX9_copies_53 : decode cX9_copies 53 = .ok (.getfield 50, 3) := by decide +kernel
theorem dX9_copies_56 : decode cX9_copies 56 = .ok (.bipush 8, 2) := by decide +kernel
theorem dX9_copies_58 : decode cX9_copies 58 = .ok (.iload_n 2, 1) := by decide +kernel
theorem dX9_copies_59 : decode cX9_copies 59 = .ok (.imul, 1) := by decide +kernel
theorem dX9_copies_60 : decode cX9_copies 60 = .ok (.iload_n 3, 1) := by decide +kernel
theorem dX9_copies_61 : decode cX9_copies 61 = .ok (.iadd, 1) := by decide +kernel
theorem dX9_copies_62 : decode cX9_copies 62 = .ok (.aload_n 0, 1) := by decide +kernel
theorem dX9_copies_63 : decode cX9_copies 63 = .ok (.getfield 50, 3) := by decide +kernel
theorem dX9_copies_66 : decode cX9_copies 66 = .ok (.bipush 8, 2) := by decide +kernel
theorem dX9_copies_68 : decode cX9_copies 68 = .ok (.iload_n 1, 1) := by decide +kernel
theorem dX9_copies_69 : decode cX9_copies 69 = .ok (.imul, 1) := by decide +kernel
theorem dX9_copies_70 : decode cX9_copies 70 = .ok (.iload_n 3, 1) := by decide +kernel
theorem dX9_copies_71 : decode cX9_copies 71 = .ok (.iadd, 1) := by decide +kernel
theorem dX9_copies_72 : decode cX9_copies 72 = .ok (.iaload, 1) := by decide +kernel
theorem dX9_copies_73 : decode cX9_copies 73 = .ok (.iastore, 1) := by decide +kernel
theorem dX9_copies_74 : decode cX9_copies 74 = .ok (.iinc 3 1, 3) := by decide +kernel
theorem dX9_copies_77 : decode cX9_copies 77 = .ok (.goto (-75), 3) := by decide +kernel
theorem dX9_copies_80 : decode cX9_copies 80 = .ok (.iconst 0, 1) := by decide +kernel
theorem dX9_copies_81 : decode cX9_copies 81 = .ok (.istore_n 3, 1) := by decide +kernel
theorem dX9_copies_82 : decode cX9_copies 82 = .ok (.iload_n 3, 1) := by decide +kernel
theorem dX9_copies_83 : decode cX9_copies 83 = .ok (.iconst 3, 1) := by decide +kernel
theorem dX9_copies_84 : decode cX9_copies 84 = .ok (.if_icmp .ge 29, 3) := by decide +kernel
theorem dX9_copies_87 : decode cX9_copies 87 = .ok (.aload_n 0, 1) := by decide +kernel
theorem dX9_copies_88 : decode cX9_copies 88 = .ok (.getfield 53, 3) := by decide +kernel
theorem dX9_copies_91 : decode cX9_copies 91 = .ok (.iconst 3, 1) := by decide +kernel
theorem dX9_copies_92 : decode cX9_copies 92 = .ok (.iload_n 2, 1) := by decide +kernel
theorem dX9_copies_93 : decode cX9_copies 93 = .ok (.imul, 1) := by decide +kernel
theorem dX9_copies_94 : decode cX9_copies 94 = .ok (.iload_n 3, 1) := by decide +kernel
theorem dX9_copies_95 : decode cX9_copies 95 = .ok (.iadd, 1) := by decide +kernel
theorem dX9_copies_96 : decode cX9_copies 96 = .ok (.aload_n 0, 1) := by decide +kernel
theorem dX9_copies_97 : decode cX9_copies 97 = .ok (.getfield 53, 3) := by decide +kernel
theorem dX9_copies_100 : decode cX9_copies 100 = .ok (.iconst 3, 1) := by decide +kernel
theorem dX9_copies_101 : decode cX9_copies 101 = .ok (.iload_n 1, 1) := by decide +kernel
theorem dX9_copies_102 : decode cX9_copies 102 = .ok (.imul, 1) := by decide +kernel
theorem dX9_copies_103 : decode cX9_copies 103 = .ok (.iload_n 3, 1) := by decide +kernel
theorem dX9_copies_104 : decode cX9_copies 104 = .ok (.iadd, 1) := by decide +kernel
theorem dX9_copies_105 : decode cX9_copies 105 = .ok (.iaload, 1) := by decide +kernel
theorem dX9_copies_106 : decode cX9_copies 106 = .ok (.iastore, 1) := by decide +kernel
theorem dX9_copies_107 : decode cX9_copies 107 = .ok (.iinc 3 1, 3) := by decide +kernel
theorem dX9_copies_110 : decode cX9_copies 110 = .ok (.goto (-28), 3) := by decide +kernel
theorem dX9_copies_113 : decode cX9_copies 113 = .ok (.aload_n 0, 1) := by decide +kernel
theorem dX9_copies_114 : decode cX9_copies 114 = .ok (.getfield 56, 3) := by decide +kernel
theorem dX9_copies_117 : decode cX9_copies 117 = .ok (.iload_n 2, 1) := by decide +kernel
theorem dX9_copies_118 : decode cX9_copies 118 = .ok (.aload_n 0, 1) := by decide +kernel
theorem dX9_copies_119 : decode cX9_copies 119 = .ok (.getfield 56, 3) := by decide +kernel
theorem dX9_copies_122 : decode cX9_copies 122 = .ok (.iload_n 1, 1) := by decide +kernel
theorem dX9_copies_123 : decode cX9_copies 123 = .ok (.iaload, 1) := by decide +kernel
theorem dX9_copies_124 : decode cX9_copies 124 = .ok (.iastore, 1) := by decide +kernel
theorem dX9_copies_125 : decode cX9_copies 125 = .ok (.aload_n 0, 1) := by decide +kernel
theorem dX9_copies_126 : decode cX9_copies 126 = .ok (.getfield 41, 3) := by decide +kernel
theorem dX9_copies_129 : decode cX9_copies 129 = .ok (.iload_n 2, 1) := by decide +kernel
theorem dX9_copies_130 : decode cX9_copies 130 = .ok (.aload_n 0, 1) := by decide +kernel
theorem dX9_copies_131 : decode cX9_copies 131 = .ok (.getfield 41, 3) := by decide +kernel
theorem dX9_copies_134 : decode cX9_copies 134 = .ok (.iload_n 1, 1) := by decide +kernel
theorem dX9_copies_135 : decode cX9_copies 135 = .ok (.iaload, 1) := by decide +kernel
theorem dX9_copies_136 : decode cX9_copies 136 = .ok (.iastore, 1) := by decide +kernel
theorem dX9_copies_137 : decode cX9_copies 137 = .ok (.aload_n 0, 1) := by decide +kernel
theorem dX9_copies_138 : decode cX9_copies 138 = .ok (.getfield 59, 3) := by decide +kernel
theorem dX9_copies_141 : decode cX9_copies 141 = .ok (.iload_n 2, 1) := by decide +kernel
theorem dX9_copies_142 : decode cX9_copies 142 = .ok (.aload_n 0, 1) := by decide +kernel
theorem dX9_copies_143 : decode cX9_copies 143 = .ok (.getfield 59, 3) := by decide +kernel
theorem dX9_copies_146 : decode cX9_copies 146 = .ok (.iload_n 1, 1) := by decide +kernel
theorem dX9_copies_147 : decode cX9_copies 147 = .ok (.iaload, 1) := by decide +kernel
theorem dX9_copies_148 : decode cX9_copies 148 = .ok (.iastore, 1) := by decide +kernel
theorem dX9_copies_149 : decode cX9_copies 149 = .ok (.aload_n 0, 1) := by decide +kernel
theorem dX9_copies_150 : decode cX9_copies 150 = .ok (.getfield 62, 3) := by decide +kernel
theorem dX9_copies_153 : decode cX9_copies 153 = .ok (.iload_n 2, 1) := by decide +kernel
theorem dX9_copies_154 : decode cX9_copies 154 = .ok (.aload_n 0, 1) := by decide +kernel
theorem dX9_copies_155 : decode cX9_copies 155 = .ok (.getfield 62, 3) := by decide +kernel
theorem dX9_copies_158 : decode cX9_copies 158 = .ok (.iload_n 1, 1) := by decide +kernel
theorem dX9_copies_159 : decode cX9_copies 159 = .ok (.iaload, 1) := by decide +kernel
theorem dX9_copies_160 : decode cX9_copies 160 = .ok (.iastore, 1) := by decide +kernel
theorem dX9_copies_161 : decode cX9_copies 161 = .ok (.aload_n 0, 1) := by decide +kernel
theorem dX9_copies_162 : decode cX9_copies 162 = .ok (.getfield 65, 3) := by decide +kernel
theorem dX9_copies_165 : decode cX9_copies 165 = .ok (.iload_n 2, 1) := by decide +kernel
theorem dX9_copies_166 : decode cX9_copies 166 = .ok (.aload_n 0, 1) := by decide +kernel
theorem dX9_copies_167 : decode cX9_copies 167 = .ok (.getfield 65, 3) := by decide +kernel
theorem dX9_copies_170 : decode cX9_copies 170 = .ok (.iload_n 1, 1) := by decide +kernel
theorem dX9_copies_171 : decode cX9_copies 171 = .ok (.laload, 1) := by decide +kernel
theorem dX9_copies_172 : decode cX9_copies 172 = .ok (.lastore, 1) := by decide +kernel
theorem dX9_copies_173 : decode cX9_copies 173 = .ok (.return_, 1) := by decide +kernel
theorem dX9_begins_0 : decode cX9_begins 0 = .ok (.iconst 0, 1) := by decide +kernel
theorem dX9_begins_1 : decode cX9_begins 1 = .ok (.istore_n 2, 1) := by decide +kernel
theorem dX9_begins_2 : decode cX9_begins 2 = .ok (.iload_n 2, 1) := by decide +kernel
theorem dX9_begins_3 : decode cX9_begins 3 = .ok (.bipush 8, 2) := by decide +kernel
theorem dX9_begins_5 : decode cX9_begins 5 = .ok (.if_icmp .ge 21, 3) := by decide +kernel
theorem dX9_begins_8 : decode cX9_begins 8 = .ok (.aload_n 0, 1) := by decide +kernel
theorem dX9_begins_9 : decode cX9_begins 9 = .ok (.getfield 50, 3) := by decide +kernel
theorem dX9_begins_12 : decode cX9_begins 12 = .ok (.bipush 8, 2) := by decide +kernel
theorem dX9_begins_14 : decode cX9_begins 14 = .ok (.iload_n 1, 1) := by decide +kernel
theorem dX9_begins_15 : decode cX9_begins 15 = .ok (.imul, 1) := by decide +kernel
theorem dX9_begins_16 : decode cX9_begins 16 = .ok (.iload_n 2, 1) := by decide +kernel
theorem dX9_begins_17 : decode cX9_begins 17 = .ok (.iadd, 1) := by decide +kernel
theorem dX9_begins_18 : decode cX9_begins 18 = .ok (.iconst 0, 1) := by decide +kernel
theorem dX9_begins_19 : decode cX9_begins 19 = .ok (.iastore, 1) := by decide +kernel
theorem dX9_begins_20 : decode cX9_begins 20 = .ok (.iinc 2 1, 3) := by decide +kernel
theorem dX9_begins_23 : decode cX9_begins 23 = .ok (.goto (-21), 3) := by decide +kernel
theorem dX9_begins_26 : decode cX9_begins 26 = .ok (.aload_n 0, 1) := by decide +kernel
theorem dX9_begins_27 : decode cX9_begins 27 = .ok (.getfield 59, 3) := by decide +kernel
theorem dX9_begins_30 : decode cX9_begins 30 = .ok (.iload_n 1, 1) := by decide +kernel
theorem dX9_begins_31 : decode cX9_begins 31 = .ok (.iconst 0, 1) := by decide +kernel
theorem dX9_begins_32 : decode cX9_begins 32 = .ok (.iastore, 1) := by decide +kernel
theorem dX9_begins_33 : decode cX9_begins 33 = .ok (.aload_n 0, 1) := by decide +kernel
theorem dX9_begins_34 : decode cX9_begins 34 = .ok (.getfield 65, 3) := by decide +kernel
theorem dX9_begins_37 : decode cX9_begins 37 = .ok (.iload_n 1, 1) := by decide +kernel
theorem dX9_begins_38 : decode cX9_begins 38 = .ok (.lconst 1, 1) := by decide +kernel
theorem dX9_begins_39 : decode cX9_begins 39 = .ok (.lastore, 1) := by decide +kernel
theorem dX9_begins_40 : decode cX9_begins 40 = .ok (.return_, 1) := by decide +kernel
theorem dX9_betweenOf_0 : decode cX9_betweenOf 0 = .ok (.iconst (-1), 1) := by decide +kernel
theorem dX9_betweenOf_1 : decode cX9_betweenOf 1 = .ok (.istore_n 3, 1) := by decide +kernel
theorem dX9_betweenOf_2 : decode cX9_betweenOf 2 = .ok (.iconst 0, 1) := by decide +kernel
theorem dX9_betweenOf_3 : decode cX9_betweenOf 3 = .ok (.istore 4, 2) := by decide +kernel
theorem dX9_betweenOf_5 : decode cX9_betweenOf 5 = .ok (.iload 4, 2) := by decide +kernel
theorem dX9_betweenOf_7 : decode cX9_betweenOf 7 = .ok (.aload_n 0, 1) := by decide +kernel
theorem dX9_betweenOf_8 : decode cX9_betweenOf 8 = .ok (.getfield 105, 3) := by decide +kernel
theorem dX9_betweenOf_11 : decode cX9_betweenOf 11 = .ok (.if_icmp .ge 97, 3) := by decide +kernel
theorem dX9_betweenOf_14 : decode cX9_betweenOf 14 = .ok (.aload_n 0, 1) := by decide +kernel
theorem dX9_betweenOf_15 : decode cX9_betweenOf 15 = .ok (.getfield 22, 3) := by decide +kernel
theorem dX9_betweenOf_18 : decode cX9_betweenOf 18 = .ok (.iload 4, 2) := by decide +kernel
theorem dX9_betweenOf_20 : decode cX9_betweenOf 20 = .ok (.iaload, 1) := by decide +kernel
theorem dX9_betweenOf_21 : decode cX9_betweenOf 21 = .ok (.iload_n 1, 1) := by decide +kernel
theorem dX9_betweenOf_22 : decode cX9_betweenOf 22 = .ok (.if_icmp .ne 14, 3) := by decide +kernel
theorem dX9_betweenOf_25 : decode cX9_betweenOf 25 = .ok (.aload_n 0, 1) := by decide +kernel
theorem dX9_betweenOf_26 : decode cX9_betweenOf 26 = .ok (.getfield 25, 3) := by decide +kernel
theorem dX9_betweenOf_29 : decode cX9_betweenOf 29 = .ok (.iload 4, 2) := by decide +kernel
theorem dX9_betweenOf_31 : decode cX9_betweenOf 31 = .ok (.iaload, 1) := by decide +kernel
theorem dX9_betweenOf_32 : decode cX9_betweenOf 32 = .ok (.iload_n 2, 1) := by decide +kernel
theorem dX9_betweenOf_33 : decode cX9_betweenOf 33 = .ok (.if_icmp .eq 25, 3) := by decide +kernel
theorem dX9_betweenOf_36 : decode cX9_betweenOf 36 = .ok (.aload_n 0, 1) := by decide +kernel
theorem dX9_betweenOf_37 : decode cX9_betweenOf 37 = .ok (.getfield 22, 3) := by decide +kernel
theorem dX9_betweenOf_40 : decode cX9_betweenOf 40 = .ok (.iload 4, 2) := by decide +kernel
theorem dX9_betweenOf_42 : decode cX9_betweenOf 42 = .ok (.iaload, 1) := by decide +kernel
theorem dX9_betweenOf_43 : decode cX9_betweenOf 43 = .ok (.iload_n 2, 1) := by decide +kernel
theorem dX9_betweenOf_44 : decode cX9_betweenOf 44 = .ok (.if_icmp .ne 18, 3) := by decide +kernel
theorem dX9_betweenOf_47 : decode cX9_betweenOf 47 = .ok (.aload_n 0, 1) := by decide +kernel
theorem dX9_betweenOf_48 : decode cX9_betweenOf 48 = .ok (.getfield 25, 3) := by decide +kernel
theorem dX9_betweenOf_51 : decode cX9_betweenOf 51 = .ok (.iload 4, 2) := by decide +kernel
theorem dX9_betweenOf_53 : decode cX9_betweenOf 53 = .ok (.iaload, 1) := by decide +kernel
theorem dX9_betweenOf_54 : decode cX9_betweenOf 54 = .ok (.iload_n 1, 1) := by decide +kernel
theorem dX9_betweenOf_55 : decode cX9_betweenOf 55 = .ok (.if_icmp .ne 7, 3) := by decide +kernel
theorem dX9_betweenOf_58 : decode cX9_betweenOf 58 = .ok (.iconst 1, 1) := by decide +kernel
theorem dX9_betweenOf_59 : decode cX9_betweenOf 59 = .ok (.goto 4, 3) := by decide +kernel
theorem dX9_betweenOf_62 : decode cX9_betweenOf 62 = .ok (.iconst 0, 1) := by decide +kernel
theorem dX9_betweenOf_63 : decode cX9_betweenOf 63 = .ok (.istore 5, 2) := by decide +kernel
theorem dX9_betweenOf_65 : decode cX9_betweenOf 65 = .ok (.iload 5, 2) := by decide +kernel
theorem dX9_betweenOf_67 : decode cX9_betweenOf 67 = .ok (.ifCond .eq 35, 3) := by decide +kernel
theorem dX9_betweenOf_70 : decode cX9_betweenOf 70 = .ok (.aload_n 0, 1) := by decide +kernel
theorem dX9_betweenOf_71 : decode cX9_betweenOf 71 = .ok (.iload 4, 2) := by decide +kernel
theorem dX9_betweenOf_73 : decode cX9_betweenOf 73 = .ok (.invokevirtual 119, 3) := by decide +kernel
theorem dX9_betweenOf_76 : decode cX9_betweenOf 76 = .ok (.ifCond .eq 26, 3) := by decide +kernel
theorem dX9_betweenOf_79 : decode cX9_betweenOf 79 = .ok (.iload_n 3, 1) := by decide +kernel
theorem dX9_betweenOf_80 : decode cX9_betweenOf 80 = .ok (.ifCond .lt 19, 3) := by decide +kernel
theorem dX9_betweenOf_83 : decode cX9_betweenOf 83 = .ok (.aload_n 0, 1) := by decide +kernel
theorem dX9_betweenOf_84 : decode cX9_betweenOf 84 = .ok (.getfield 28, 3) := by decide +kernel
theorem dX9_betweenOf_87 : decode cX9_betweenOf 87 = .ok (.iload 4, 2) := by decide +kernel
theorem dX9_betweenOf_89 : decode cX9_betweenOf 89 = .ok (.iaload, 1) := by decide +kernel
theorem dX9_betweenOf_90 : decode cX9_betweenOf 90 = .ok (.aload_n 0, 1) := by decide +kernel
theorem dX9_betweenOf_91 : decode cX9_betweenOf 91 = .ok (.getfield 28, 3) := by decide +kernel
theorem dX9_betweenOf_94 : decode cX9_betweenOf 94 = .ok (.iload_n 3, 1) := by decide +kernel
theorem dX9_betweenOf_95 : decode cX9_betweenOf 95 = .ok (.iaload, 1) := by decide +kernel
theorem dX9_betweenOf_96 : decode cX9_betweenOf 96 = .ok (.if_icmp .ge 6, 3) := by decide +kernel
theorem dX9_betweenOf_99 : decode cX9_betweenOf 99 = .ok (.iload 4, 2) := by decide +kernel
theorem dX9_betweenOf_101 : decode cX9_betweenOf 101 = .ok (.istore_n 3, 1) := by decide +kernel
theorem dX9_betweenOf_102 : decode cX9_betweenOf 102 = .ok (.iinc 4 1, 3) := by decide +kernel
theorem dX9_betweenOf_105 : decode cX9_betweenOf 105 = .ok (.goto (-100), 3) := by decide +kernel
theorem dX9_betweenOf_108 : decode cX9_betweenOf 108 = .ok (.iload_n 3, 1) := by decide +kernel
theorem dX9_betweenOf_109 : decode cX9_betweenOf 109 = .ok (.ireturn, 1) := by decide +kernel
theorem dX9_openAt_0 : decode cX9_openAt 0 = .ok (.iconst 0, 1) := by decide +kernel
theorem dX9_openAt_1 : decode cX9_openAt 1 = .ok (.istore_n 2, 1) := by decide +kernel
theorem dX9_openAt_2 : decode cX9_openAt 2 = .ok (.iconst 0, 1) := by decide +kernel
theorem dX9_openAt_3 : decode cX9_openAt 3 = .ok (.istore_n 3, 1) := by decide +kernel
theorem dX9_openAt_4 : decode cX9_openAt 4 = .ok (.iload_n 3, 1) := by decide +kernel
theorem dX9_openAt_5 : decode cX9_openAt 5 = .ok (.aload_n 0, 1) := by decide +kernel
theorem dX9_openAt_6 : decode cX9_openAt 6 = .ok (.getfield 105, 3) := by decide +kernel
theorem dX9_openAt_9 : decode cX9_openAt 9 = .ok (.if_icmp .ge 45, 3) := by decide +kernel
theorem dX9_openAt_12 : decode cX9_openAt 12 = .ok (.iload_n 2, 1) := by decide +kernel
theorem dX9_openAt_13 : decode cX9_openAt 13 = .ok (.aload_n 0, 1) := by decide +kernel
theorem dX9_openAt_14 : decode cX9_openAt 14 = .ok (.iload_n 3, 1) := by decide +kernel
theorem dX9_openAt_15 : decode cX9_openAt 15 = .ok (.invokevirtual 119, 3) := by decide +kernel
theorem dX9_openAt_18 : decode cX9_openAt 18 = .ok (.ifCond .eq 27, 3) := by decide +kernel
theorem dX9_openAt_21 : decode cX9_openAt 21 = .ok (.aload_n 0, 1) := by decide +kernel
theorem dX9_openAt_22 : decode cX9_openAt 22 = .ok (.getfield 22, 3) := by decide +kernel
theorem dX9_openAt_25 : decode cX9_openAt 25 = .ok (.iload_n 3, 1) := by decide +kernel
theorem dX9_openAt_26 : decode cX9_openAt 26 = .ok (.iaload, 1) := by decide +kernel
theorem dX9_openAt_27 : decode cX9_openAt 27 = .ok (.iload_n 1, 1) := by decide +kernel
theorem dX9_openAt_28 : decode cX9_openAt 28 = .ok (.if_icmp .eq 13, 3) := by decide +kernel
theorem dX9_openAt_31 : decode cX9_openAt 31 = .ok (.aload_n 0, 1) := by decide +kernel
theorem dX9_openAt_32 : decode cX9_openAt 32 = .ok (.getfield 25, 3) := by decide +kernel
theorem dX9_openAt_35 : decode cX9_openAt 35 = .ok (.iload_n 3, 1) := by decide +kernel
theorem dX9_openAt_36 : decode cX9_openAt 36 = .ok (.iaload, 1) := by decide +kernel
theorem dX9_openAt_37 : decode cX9_openAt 37 = .ok (.iload_n 1, 1) := by decide +kernel
theorem dX9_openAt_38 : decode cX9_openAt 38 = .ok (.if_icmp .ne 7, 3) := by decide +kernel
theorem dX9_openAt_41 : decode cX9_openAt 41 = .ok (.iconst 1, 1) := by decide +kernel
theorem dX9_openAt_42 : decode cX9_openAt 42 = .ok (.goto 4, 3) := by decide +kernel
theorem dX9_openAt_45 : decode cX9_openAt 45 = .ok (.iconst 0, 1) := by decide +kernel
theorem dX9_openAt_46 : decode cX9_openAt 46 = .ok (.iadd, 1) := by decide +kernel
theorem dX9_openAt_47 : decode cX9_openAt 47 = .ok (.istore_n 2, 1) := by decide +kernel
theorem dX9_openAt_48 : decode cX9_openAt 48 = .ok (.iinc 3 1, 3) := by decide +kernel
theorem dX9_openAt_51 : decode cX9_openAt 51 = .ok (.goto (-47), 3) := by decide +kernel
theorem dX9_openAt_54 : decode cX9_openAt 54 = .ok (.iload_n 2, 1) := by decide +kernel
theorem dX9_openAt_55 : decode cX9_openAt 55 = .ok (.ireturn, 1) := by decide +kernel
theorem dX9_beginsRoutes_0 : decode cX9_beginsRoutes 0 = .ok (.aload_n 0, 1) := by decide +kernel
theorem dX9_beginsRoutes_1 : decode cX9_beginsRoutes 1 = .ok (.iconst 0, 1) := by decide +kernel
theorem dX9_beginsRoutes_2 : decode cX9_beginsRoutes 2 = .ok (.putfield 123, 3) := by decide +kernel
theorem dX9_beginsRoutes_5 : decode cX9_beginsRoutes 5 = .ok (.aload_n 0, 1) := by decide +kernel
theorem dX9_beginsRoutes_6 : decode cX9_beginsRoutes 6 = .ok (.iload_n 1, 1) := by decide +kernel
theorem dX9_beginsRoutes_7 : decode cX9_beginsRoutes 7 = .ok (.putfield 126, 3) := by decide +kernel
theorem dX9_beginsRoutes_10 : decode cX9_beginsRoutes 10 = .ok (.aload_n 0, 1) := by decide +kernel
theorem dX9_beginsRoutes_11 : decode cX9_beginsRoutes 11 = .ok (.iconst 0, 1) := by decide +kernel
theorem dX9_beginsRoutes_12 : decode cX9_beginsRoutes 12 = .ok (.putfield 129, 3) := by decide +kernel
theorem dX9_beginsRoutes_15 : decode cX9_beginsRoutes 15 = .ok (.aload_n 0, 1) := by decide +kernel
theorem dX9_beginsRoutes_16 : decode cX9_beginsRoutes 16 = .ok (.iconst 0, 1) := by decide +kernel
theorem dX9_beginsRoutes_17 : decode cX9_beginsRoutes 17 = .ok (.putfield 133, 3) := by decide +kernel
theorem dX9_beginsRoutes_20 : decode cX9_beginsRoutes 20 = .ok (.aload_n 0, 1) := by decide +kernel
theorem dX9_beginsRoutes_21 : decode cX9_beginsRoutes 21 = .ok (.iload_n 2, 1) := by decide +kernel
theorem dX9_beginsRoutes_22 : decode cX9_beginsRoutes 22 = .ok (.putfield 136, 3) := by decide +kernel
theorem dX9_beginsRoutes_25 : decode cX9_beginsRoutes 25 = .ok (.aload_n 0, 1) := by decide +kernel
theorem dX9_beginsRoutes_26 : decode cX9_beginsRoutes 26 = .ok (.getfield 72, 3) := by decide +kernel
theorem dX9_beginsRoutes_29 : decode cX9_beginsRoutes 29 = .ok (.iconst 0, 1) := by decide +kernel
theorem dX9_beginsRoutes_30 : decode cX9_beginsRoutes 30 = .ok (.iconst 0, 1) := by decide +kernel
theorem dX9_beginsRoutes_31 : decode cX9_beginsRoutes 31 = .ok (.iastore, 1) := by decide +kernel
theorem dX9_beginsRoutes_32 : decode cX9_beginsRoutes 32 = .ok (.aload_n 0, 1) := by decide +kernel
theorem dX9_beginsRoutes_33 : decode cX9_beginsRoutes 33 = .ok (.iconst 0, 1) := by decide +kernel
theorem dX9_beginsRoutes_34 : decode cX9_beginsRoutes 34 = .ok (.invokevirtual 139, 3) := by decide +kernel
theorem dX9_beginsRoutes_37 : decode cX9_beginsRoutes 37 = .ok (.return_, 1) := by decide +kernel
theorem dX9_leadsTo_0 : decode cX9_leadsTo 0 = .ok (.aload_n 0, 1) := by decide +kernel
theorem dX9_leadsTo_1 : decode cX9_leadsTo 1 = .ok (.getfield 41, 3) := by decide +kernel
theorem dX9_leadsTo_4 : decode cX9_leadsTo 4 = .ok (.aload_n 0, 1) := by decide +kernel
theorem dX9_leadsTo_5 : decode cX9_leadsTo 5 = .ok (.getfield 123, 3) := by decide +kernel
theorem dX9_leadsTo_8 : decode cX9_leadsTo 8 = .ok (.iaload, 1) := by decide +kernel
theorem dX9_leadsTo_9 : decode cX9_leadsTo 9 = .ok (.istore_n 2, 1) := by decide +kernel
theorem dX9_leadsTo_10 : decode cX9_leadsTo 10 = .ok (.aload_n 0, 1) := by decide +kernel
theorem dX9_leadsTo_11 : decode cX9_leadsTo 11 = .ok (.getfield 136, 3) := by decide +kernel
theorem dX9_leadsTo_14 : decode cX9_leadsTo 14 = .ok (.ifCond .ne 18, 3) := by decide +kernel
theorem dX9_leadsTo_17 : decode cX9_leadsTo 17 = .ok (.aload_n 0, 1) := by decide +kernel
theorem dX9_leadsTo_18 : decode cX9_leadsTo 18 = .ok (.iload_n 2, 1) := by decide +kernel
theorem dX9_leadsTo_19 : decode cX9_leadsTo 19 = .ok (.iload_n 1, 1) := by decide +kernel
theorem dX9_leadsTo_20 : decode cX9_leadsTo 20 = .ok (.invokevirtual 143, 3) := by decide +kernel
theorem dX9_leadsTo_23 : decode cX9_leadsTo 23 = .ok (.ifCond .ge 7, 3) := by decide +kernel
theorem dX9_leadsTo_26 : decode cX9_leadsTo 26 = .ok (.iconst (-1), 1) := by decide +kernel
theorem dX9_leadsTo_27 : decode cX9_leadsTo 27 = .ok (.goto 4, 3) := by decide +kernel
theorem dX9_leadsTo_30 : decode cX9_leadsTo 30 = .ok (.iload_n 1, 1) := by decide +kernel
theorem dX9_leadsTo_31 : decode cX9_leadsTo 31 = .ok (.ireturn, 1) := by decide +kernel
theorem dX9_leadsTo_32 : decode cX9_leadsTo 32 = .ok (.aload_n 0, 1) := by decide +kernel
theorem dX9_leadsTo_33 : decode cX9_leadsTo 33 = .ok (.iload_n 1, 1) := by decide +kernel
theorem dX9_leadsTo_34 : decode cX9_leadsTo 34 = .ok (.invokevirtual 119, 3) := by decide +kernel
theorem dX9_leadsTo_37 : decode cX9_leadsTo 37 = .ok (.ifCond .eq 23, 3) := by decide +kernel
theorem dX9_leadsTo_40 : decode cX9_leadsTo 40 = .ok (.aload_n 0, 1) := by decide +kernel
theorem dX9_leadsTo_41 : decode cX9_leadsTo 41 = .ok (.getfield 22, 3) := by decide +kernel
theorem dX9_leadsTo_44 : decode cX9_leadsTo 44 = .ok (.iload_n 1, 1) := by decide +kernel
theorem dX9_leadsTo_45 : decode cX9_leadsTo 45 = .ok (.iaload, 1) := by decide +kernel
theorem dX9_leadsTo_46 : decode cX9_leadsTo 46 = .ok (.iload_n 2, 1) := by decide +kernel
theorem dX9_leadsTo_47 : decode cX9_leadsTo 47 = .ok (.if_icmp .eq 15, 3) := by decide +kernel
theorem dX9_leadsTo_50 : decode cX9_leadsTo 50 = .ok (.aload_n 0, 1) := by decide +kernel
theorem dX9_leadsTo_51 : decode cX9_leadsTo 51 = .ok (.getfield 25, 3) := by decide +kernel
theorem dX9_leadsTo_54 : decode cX9_leadsTo 54 = .ok (.iload_n 1, 1) := by decide +kernel
theorem dX9_leadsTo_55 : decode cX9_leadsTo 55 = .ok (.iaload, 1) := by decide +kernel
theorem dX9_leadsTo_56 : decode cX9_leadsTo 56 = .ok (.iload_n 2, 1) := by decide +kernel
theorem dX9_leadsTo_57 : decode cX9_leadsTo 57 = .ok (.if_icmp .eq 5, 3) := by decide +kernel
theorem dX9_leadsTo_60 : decode cX9_leadsTo 60 = .ok (.iconst (-1), 1) := by decide +kernel
theorem dX9_leadsTo_61 : decode cX9_leadsTo 61 = .ok (.ireturn, 1) := by decide +kernel
theorem dX9_leadsTo_62 : decode cX9_leadsTo 62 = .ok (.aload_n 0, 1) := by decide +kernel
theorem dX9_leadsTo_63 : decode cX9_leadsTo 63 = .ok (.getfield 22, 3) := by decide +kernel
theorem dX9_leadsTo_66 : decode cX9_leadsTo 66 = .ok (.iload_n 1, 1) := by decide +kernel
theorem dX9_leadsTo_67 : decode cX9_leadsTo 67 = .ok (.iaload, 1) := by decide +kernel
theorem dX9_leadsTo_68 : decode cX9_leadsTo 68 = .ok (.iload_n 2, 1) := by decide +kernel
theorem dX9_leadsTo_69 : decode cX9_leadsTo 69 = .ok (.if_icmp .ne 12, 3) := by decide +kernel
theorem dX9_leadsTo_72 : decode cX9_leadsTo 72 = .ok (.aload_n 0, 1) := by decide +kernel
theorem dX9_leadsTo_73 : decode cX9_leadsTo 73 = .ok (.getfield 25, 3) := by decide +kernel
theorem dX9_leadsTo_76 : decode cX9_leadsTo 76 = .ok (.iload_n 1, 1) := by decide +kernel
theorem dX9_leadsTo_77 : decode cX9_leadsTo 77 = .ok (.iaload, 1) := by decide +kernel
theorem dX9_leadsTo_78 : decode cX9_leadsTo 78 = .ok (.goto 9, 3) := by decide +kernel
theorem dX9_leadsTo_81 : decode cX9_leadsTo 81 = .ok (.aload_n 0, 1) := by decide +kernel
theorem dX9_leadsTo_82 : decode cX9_leadsTo 82 = .ok (.getfield 22, 3) := by decide +kernel
theorem dX9_leadsTo_85 : decode cX9_leadsTo 85 = .ok (.iload_n 1, 1) := by decide +kernel
theorem dX9_leadsTo_86 : decode cX9_leadsTo 86 = .ok (.iaload, 1) := by decide +kernel
theorem dX9_leadsTo_87 : decode cX9_leadsTo 87 = .ok (.ireturn, 1) := by decide +kernel
theorem dX9_goesTo_0 : decode cX9_goesTo 0 = .ok (.aload_n 0, 1) := by decide +kernel
theorem dX9_goesTo_1 : decode cX9_goesTo 1 = .ok (.getfield 136, 3) := by decide +kernel
theorem dX9_goesTo_4 : decode cX9_goesTo 4 = .ok (.ifCond .eq 7, 3) := by decide +kernel
theorem dX9_goesTo_7 : decode cX9_goesTo 7 = .ok (.iload_n 1, 1) := by decide +kernel
theorem dX9_goesTo_8 : decode cX9_goesTo 8 = .ok (.goto 17, 3) := by decide +kernel
theorem dX9_goesTo_11 : decode cX9_goesTo 11 = .ok (.aload_n 0, 1) := by decide +kernel
theorem dX9_goesTo_12 : decode cX9_goesTo 12 = .ok (.aload_n 0, 1) := by decide +kernel
theorem dX9_goesTo_13 : decode cX9_goesTo 13 = .ok (.getfield 41, 3) := by decide +kernel
theorem dX9_goesTo_16 : decode cX9_goesTo 16 = .ok (.aload_n 0, 1) := by decide +kernel
theorem dX9_goesTo_17 : decode cX9_goesTo 17 = .ok (.getfield 123, 3) := by decide +kernel
theorem dX9_goesTo_20 : decode cX9_goesTo 20 = .ok (.iaload, 1) := by decide +kernel
theorem dX9_goesTo_21 : decode cX9_goesTo 21 = .ok (.iload_n 2, 1) := by decide +kernel
theorem dX9_goesTo_22 : decode cX9_goesTo 22 = .ok (.invokevirtual 143, 3) := by decide +kernel
theorem dX9_goesTo_25 : decode cX9_goesTo 25 = .ok (.istore_n 3, 1) := by decide +kernel
theorem dX9_goesTo_26 : decode cX9_goesTo 26 = .ok (.aload_n 0, 1) := by decide +kernel
theorem dX9_goesTo_27 : decode cX9_goesTo 27 = .ok (.getfield 136, 3) := by decide +kernel
theorem dX9_goesTo_30 : decode cX9_goesTo 30 = .ok (.ifCond .eq 19, 3) := by decide +kernel
theorem dX9_goesTo_33 : decode cX9_goesTo 33 = .ok (.aload_n 0, 1) := by decide +kernel
theorem dX9_goesTo_34 : decode cX9_goesTo 34 = .ok (.aload_n 0, 1) := by decide +kernel
theorem dX9_goesTo_35 : decode cX9_goesTo 35 = .ok (.getfield 41, 3) := by decide +kernel
theorem dX9_goesTo_38 : decode cX9_goesTo 38 = .ok (.aload_n 0, 1) := by decide +kernel
theorem dX9_goesTo_39 : decode cX9_goesTo 39 = .ok (.getfield 123, 3) := by decide +kernel
theorem dX9_goesTo_42 : decode cX9_goesTo 42 = .ok (.iaload, 1) := by decide +kernel
theorem dX9_goesTo_43 : decode cX9_goesTo 43 = .ok (.invokevirtual 147, 3) := by decide +kernel
theorem dX9_goesTo_46 : decode cX9_goesTo 46 = .ok (.goto 4, 3) := by decide +kernel
theorem dX9_goesTo_49 : decode cX9_goesTo 49 = .ok (.iconst 1, 1) := by decide +kernel
theorem dX9_goesTo_50 : decode cX9_goesTo 50 = .ok (.istore 4, 2) := by decide +kernel
theorem dX9_goesTo_52 : decode cX9_goesTo 52 = .ok (.aload_n 0, 1) := by decide +kernel
theorem dX9_goesTo_53 : decode cX9_goesTo 53 = .ok (.aload_n 0, 1) := by decide +kernel
theorem dX9_goesTo_54 : decode cX9_goesTo 54 = .ok (.getfield 123, 3) := by decide +kernel
theorem dX9_goesTo_57 : decode cX9_goesTo 57 = .ok (.aload_n 0, 1) := by decide +kernel
theorem dX9_goesTo_58 : decode cX9_goesTo 58 = .ok (.getfield 123, 3) := by decide +kernel
theorem dX9_goesTo_61 : decode cX9_goesTo 61 = .ok (.iconst 1, 1) := by decide +kernel
theorem dX9_goesTo_62 : decode cX9_goesTo 62 = .ok (.iadd, 1) := by decide +kernel
theorem dX9_goesTo_63 : decode cX9_goesTo 63 = .ok (.invokevirtual 150, 3) := by decide +kernel
theorem dX9_goesTo_66 : decode cX9_goesTo 66 = .ok (.aload_n 0, 1) := by decide +kernel
theorem dX9_goesTo_67 : decode cX9_goesTo 67 = .ok (.dup, 1) := by decide +kernel
theorem dX9_goesTo_68 : decode cX9_goesTo 68 = .ok (.getfield 123, 3) := by decide +kernel
theorem dX9_goesTo_71 : decode cX9_goesTo 71 = .ok (.iconst 1, 1) := by decide +kernel
theorem dX9_goesTo_72 : decode cX9_goesTo 72 = .ok (.iadd, 1) := by decide +kernel
theorem dX9_goesTo_73 : decode cX9_goesTo 73 = .ok (.putfield 123, 3) := by decide +kernel
theorem dX9_goesTo_76 : decode cX9_goesTo 76 = .ok (.aload_n 0, 1) := by decide +kernel
theorem dX9_goesTo_77 : decode cX9_goesTo 77 = .ok (.aload_n 0, 1) := by decide +kernel
theorem dX9_goesTo_78 : decode cX9_goesTo 78 = .ok (.getfield 123, 3) := by decide +kernel
theorem dX9_goesTo_81 : decode cX9_goesTo 81 = .ok (.iload_n 2, 1) := by decide +kernel
theorem dX9_goesTo_82 : decode cX9_goesTo 82 = .ok (.invokevirtual 154, 3) := by decide +kernel
theorem dX9_goesTo_85 : decode cX9_goesTo 85 = .ok (.aload_n 0, 1) := by decide +kernel
theorem dX9_goesTo_86 : decode cX9_goesTo 86 = .ok (.getfield 59, 3) := by decide +kernel
theorem dX9_goesTo_89 : decode cX9_goesTo 89 = .ok (.aload_n 0, 1) := by decide +kernel
theorem dX9_goesTo_90 : decode cX9_goesTo 90 = .ok (.getfield 123, 3) := by decide +kernel
theorem dX9_goesTo_93 : decode cX9_goesTo 93 = .ok (.dup2, 1) := by decide +kernel
theorem dX9_goesTo_94 : decode cX9_goesTo 94 = .ok (.iaload, 1) := by decide +kernel
theorem dX9_goesTo_95 : decode cX9_goesTo 95 = .ok (.aload_n 0, 1) := by decide +kernel
theorem dX9_goesTo_96 : decode cX9_goesTo 96 = .ok (.getfield 28, 3) := by decide +kernel
theorem dX9_goesTo_99 : decode cX9_goesTo 99 = .ok (.iload_n 3, 1) := by decide +kernel
theorem dX9_goesTo_100 : decode cX9_goesTo 100 = .ok (.iaload, 1) := by decide +kernel
theorem dX9_goesTo_101 : decode cX9_goesTo 101 = .ok (.iadd, 1) := by decide +kernel
theorem dX9_goesTo_102 : decode cX9_goesTo 102 = .ok (.iastore, 1) := by decide +kernel
theorem dX9_goesTo_103 : decode cX9_goesTo 103 = .ok (.aload_n 0, 1) := by decide +kernel
theorem dX9_goesTo_104 : decode cX9_goesTo 104 = .ok (.getfield 65, 3) := by decide +kernel
theorem dX9_goesTo_107 : decode cX9_goesTo 107 = .ok (.aload_n 0, 1) := by decide +kernel
theorem dX9_goesTo_108 : decode cX9_goesTo 108 = .ok (.getfield 123, 3) := by decide +kernel
theorem dX9_goesTo_111 : decode cX9_goesTo 111 = .ok (.dup2, 1) := by decide +kernel
theorem dX9_goesTo_112 : decode cX9_goesTo 112 = .ok (.laload, 1) := by decide +kernel
theorem dX9_goesTo_113 : decode cX9_goesTo 113 = .ok (.ldc2_w 156, 3) := by decide +kernel
theorem dX9_goesTo_116 : decode cX9_goesTo 116 = .ok (.iload 4, 2) := by decide +kernel
theorem dX9_goesTo_118 : decode cX9_goesTo 118 = .ok (.i2l, 1) := by decide +kernel
theorem dX9_goesTo_119 : decode cX9_goesTo 119 = .ok (.ldiv, 1) := by decide +kernel
theorem dX9_goesTo_120 : decode cX9_goesTo 120 = .ok (.lmul, 1) := by decide +kernel
theorem dX9_goesTo_121 : decode cX9_goesTo 121 = .ok (.lastore, 1) := by decide +kernel
theorem dX9_goesTo_122 : decode cX9_goesTo 122 = .ok (.aload_n 0, 1) := by decide +kernel
theorem dX9_goesTo_123 : decode cX9_goesTo 123 = .ok (.getfield 72, 3) := by decide +kernel
theorem dX9_goesTo_126 : decode cX9_goesTo 126 = .ok (.aload_n 0, 1) := by decide +kernel
theorem dX9_goesTo_127 : decode cX9_goesTo 127 = .ok (.getfield 123, 3) := by decide +kernel
theorem dX9_goesTo_130 : decode cX9_goesTo 130 = .ok (.iconst 0, 1) := by decide +kernel
theorem dX9_goesTo_131 : decode cX9_goesTo 131 = .ok (.iastore, 1) := by decide +kernel
theorem dX9_goesTo_132 : decode cX9_goesTo 132 = .ok (.return_, 1) := by decide +kernel
theorem dX9_hasNext_0 : decode cX9_hasNext 0 = .ok (.aload_n 0, 1) := by decide +kernel
theorem dX9_hasNext_1 : decode cX9_hasNext 1 = .ok (.getfield 129, 3) := by decide +kernel
theorem dX9_hasNext_4 : decode cX9_hasNext 4 = .ok (.ifCond .ne 10, 3) := by decide +kernel
theorem dX9_hasNext_7 : decode cX9_hasNext 7 = .ok (.aload_n 0, 1) := by decide +kernel
theorem dX9_hasNext_8 : decode cX9_hasNext 8 = .ok (.iconst 1, 1) := by decide +kernel
theorem dX9_hasNext_9 : decode cX9_hasNext 9 = .ok (.putfield 129, 3) := by decide +kernel
theorem dX9_hasNext_12 : decode cX9_hasNext 12 = .ok (.iconst 1, 1) := by decide +kernel
theorem dX9_hasNext_13 : decode cX9_hasNext 13 = .ok (.ireturn, 1) := by decide +kernel
theorem dX9_hasNext_14 : decode cX9_hasNext 14 = .ok (.aload_n 0, 1) := by decide +kernel
theorem dX9_hasNext_15 : decode cX9_hasNext 15 = .ok (.getfield 136, 3) := by decide +kernel
theorem dX9_hasNext_18 : decode cX9_hasNext 18 = .ok (.ifCond .eq 10, 3) := by decide +kernel
theorem dX9_hasNext_21 : decode cX9_hasNext 21 = .ok (.aload_n 0, 1) := by decide +kernel
theorem dX9_hasNext_22 : decode cX9_hasNext 22 = .ok (.getfield 105, 3) := by decide +kernel
theorem dX9_hasNext_25 : decode cX9_hasNext 25 = .ok (.goto 7, 3) := by decide +kernel
theorem dX9_hasNext_28 : decode cX9_hasNext 28 = .ok (.aload_n 0, 1) := by decide +kernel
theorem dX9_hasNext_29 : decode cX9_hasNext 29 = .ok (.getfield 102, 3) := by decide +kernel
theorem dX9_hasNext_32 : decode cX9_hasNext 32 = .ok (.istore_n 1, 1) := by decide +kernel
theorem dX9_hasNext_33 : decode cX9_hasNext 33 = .ok (.aload_n 0, 1) := by decide +kernel
theorem dX9_hasNext_34 : decode cX9_hasNext 34 = .ok (.getfield 123, 3) := by decide +kernel
theorem dX9_hasNext_37 : decode cX9_hasNext 37 = .ok (.aload_n 0, 1) := by decide +kernel
theorem dX9_hasNext_38 : decode cX9_hasNext 38 = .ok (.getfield 126, 3) := by decide +kernel
theorem dX9_hasNext_41 : decode cX9_hasNext 41 = .ok (.if_icmp .eq 10, 3) := by decide +kernel
theorem dX9_hasNext_44 : decode cX9_hasNext 44 = .ok (.aload_n 0, 1) := by decide +kernel
theorem dX9_hasNext_45 : decode cX9_hasNext 45 = .ok (.getfield 133, 3) := by decide +kernel
theorem dX9_hasNext_48 : decode cX9_hasNext 48 = .ok (.ifCond .eq 7, 3) := by decide +kernel
theorem dX9_hasNext_51 : decode cX9_hasNext 51 = .ok (.iload_n 1, 1) := by decide +kernel
theorem dX9_hasNext_52 : decode cX9_hasNext 52 = .ok (.goto 12, 3) := by decide +kernel
theorem dX9_hasNext_55 : decode cX9_hasNext 55 = .ok (.aload_n 0, 1) := by decide +kernel
theorem dX9_hasNext_56 : decode cX9_hasNext 56 = .ok (.getfield 72, 3) := by decide +kernel
theorem dX9_hasNext_59 : decode cX9_hasNext 59 = .ok (.aload_n 0, 1) := by decide +kernel
theorem dX9_hasNext_60 : decode cX9_hasNext 60 = .ok (.getfield 123, 3) := by decide +kernel
theorem dX9_hasNext_63 : decode cX9_hasNext 63 = .ok (.iaload, 1) := by decide +kernel
theorem dX9_hasNext_64 : decode cX9_hasNext 64 = .ok (.istore_n 2, 1) := by decide +kernel
theorem dX9_hasNext_65 : decode cX9_hasNext 65 = .ok (.aload_n 0, 1) := by decide +kernel
theorem dX9_hasNext_66 : decode cX9_hasNext 66 = .ok (.iconst 0, 1) := by decide +kernel
theorem dX9_hasNext_67 : decode cX9_hasNext 67 = .ok (.putfield 133, 3) := by decide +kernel
theorem dX9_hasNext_70 : decode cX9_hasNext 70 = .ok (.iload_n 2, 1) := by decide +kernel
theorem dX9_hasNext_71 : decode cX9_hasNext 71 = .ok (.iload_n 1, 1) := by decide +kernel
theorem dX9_hasNext_72 : decode cX9_hasNext 72 = .ok (.if_icmp .ge 17, 3) := by decide +kernel
theorem dX9_hasNext_75 : decode cX9_hasNext 75 = .ok (.aload_n 0, 1) := by decide +kernel
theorem dX9_hasNext_76 : decode cX9_hasNext 76 = .ok (.iload_n 2, 1) := by decide +kernel
theorem dX9_hasNext_77 : decode cX9_hasNext 77 = .ok (.invokevirtual 158, 3) := by decide +kernel
theorem dX9_hasNext_80 : decode cX9_hasNext 80 = .ok (.ifCond .ge 9, 3) := by decide +kernel
theorem dX9_hasNext_83 : decode cX9_hasNext 83 = .ok (.iinc 2 1, 3) := by decide +kernel
theorem dX9_hasNext_86 : decode cX9_hasNext 86 = .ok (.goto (-16), 3) := by decide +kernel
theorem dX9_hasNext_89 : decode cX9_hasNext 89 = .ok (.iload_n 2, 1) := by decide +kernel
theorem dX9_hasNext_90 : decode cX9_hasNext 90 = .ok (.iload_n 1, 1) := by decide +kernel
theorem dX9_hasNext_91 : decode cX9_hasNext 91 = .ok (.if_icmp .ge 27, 3) := by decide +kernel
theorem dX9_hasNext_94 : decode cX9_hasNext 94 = .ok (.aload_n 0, 1) := by decide +kernel
theorem dX9_hasNext_95 : decode cX9_hasNext 95 = .ok (.getfield 72, 3) := by decide +kernel
theorem dX9_hasNext_98 : decode cX9_hasNext 98 = .ok (.aload_n 0, 1) := by decide +kernel
theorem dX9_hasNext_99 : decode cX9_hasNext 99 = .ok (.getfield 123, 3) := by decide +kernel
theorem dX9_hasNext_102 : decode cX9_hasNext 102 = .ok (.iload_n 2, 1) := by decide +kernel
theorem dX9_hasNext_103 : decode cX9_hasNext 103 = .ok (.iconst 1, 1) := by decide +kernel
theorem dX9_hasNext_104 : decode cX9_hasNext 104 = .ok (.iadd, 1) := by decide +kernel
theorem dX9_hasNext_105 : decode cX9_hasNext 105 = .ok (.iastore, 1) := by decide +kernel
theorem dX9_hasNext_106 : decode cX9_hasNext 106 = .ok (.aload_n 0, 1) := by decide +kernel
theorem dX9_hasNext_107 : decode cX9_hasNext 107 = .ok (.iload_n 2, 1) := by decide +kernel
theorem dX9_hasNext_108 : decode cX9_hasNext 108 = .ok (.aload_n 0, 1) := by decide +kernel
theorem dX9_hasNext_109 : decode cX9_hasNext 109 = .ok (.iload_n 2, 1) := by decide +kernel
theorem dX9_hasNext_110 : decode cX9_hasNext 110 = .ok (.invokevirtual 158, 3) := by decide +kernel
theorem dX9_hasNext_113 : decode cX9_hasNext 113 = .ok (.invokevirtual 161, 3) := by decide +kernel
theorem dX9_hasNext_116 : decode cX9_hasNext 116 = .ok (.iconst 1, 1) := by decide +kernel
theorem dX9_hasNext_117 : decode cX9_hasNext 117 = .ok (.ireturn, 1) := by decide +kernel
theorem dX9_hasNext_118 : decode cX9_hasNext 118 = .ok (.aload_n 0, 1) := by decide +kernel
theorem dX9_hasNext_119 : decode cX9_hasNext 119 = .ok (.getfield 123, 3) := by decide +kernel
theorem dX9_hasNext_122 : decode cX9_hasNext 122 = .ok (.ifCond .ne 5, 3) := by decide +kernel
theorem dX9_hasNext_125 : decode cX9_hasNext 125 = .ok (.iconst 0, 1) := by decide +kernel
theorem dX9_hasNext_126 : decode cX9_hasNext 126 = .ok (.ireturn, 1) := by decide +kernel
theorem dX9_hasNext_127 : decode cX9_hasNext 127 = .ok (.aload_n 0, 1) := by decide +kernel
theorem dX9_hasNext_128 : decode cX9_hasNext 128 = .ok (.dup, 1) := by decide +kernel
theorem dX9_hasNext_129 : decode cX9_hasNext 129 = .ok (.getfield 123, 3) := by decide +kernel
theorem dX9_hasNext_132 : decode cX9_hasNext 132 = .ok (.iconst 1, 1) := by decide +kernel
theorem dX9_hasNext_133 : decode cX9_hasNext 133 = .ok (.isub, 1) := by decide +kernel
theorem dX9_hasNext_134 : decode cX9_hasNext 134 = .ok (.putfield 123, 3) := by decide +kernel
theorem dX9_hasNext_137 : decode cX9_hasNext 137 = .ok (.goto (-123), 3) := by decide +kernel
theorem dX9_isShelf_0 : decode cX9_isShelf 0 = .ok (.iload_n 0, 1) := by decide +kernel
theorem dX9_isShelf_1 : decode cX9_isShelf 1 = .ok (.ifCond .lt 13, 3) := by decide +kernel
theorem dX9_isShelf_4 : decode cX9_isShelf 4 = .ok (.iload_n 0, 1) := by decide +kernel
theorem dX9_isShelf_5 : decode cX9_isShelf 5 = .ok (.bipush 8, 2) := by decide +kernel
theorem dX9_isShelf_7 : decode cX9_isShelf 7 = .ok (.if_icmp .ge 7, 3) := by decide +kernel
theorem dX9_isShelf_10 : decode cX9_isShelf 10 = .ok (.iconst 1, 1) := by decide +kernel
theorem dX9_isShelf_11 : decode cX9_isShelf 11 = .ok (.goto 4, 3) := by decide +kernel
theorem dX9_isShelf_14 : decode cX9_isShelf 14 = .ok (.iconst 0, 1) := by decide +kernel
theorem dX9_isShelf_15 : decode cX9_isShelf 15 = .ok (.ireturn, 1) := by decide +kernel
theorem dX9_notRow_0 : decode cX9_notRow 0 = .ok (.iload_n 1, 1) := by decide +kernel
theorem dX9_notRow_1 : decode cX9_notRow 1 = .ok (.invokestatic 164, 3) := by decide +kernel
theorem dX9_notRow_4 : decode cX9_notRow 4 = .ok (.ifCond .ne 7, 3) := by decide +kernel
theorem dX9_notRow_7 : decode cX9_notRow 7 = .ok (.iconst (-1), 1) := by decide +kernel
theorem dX9_notRow_8 : decode cX9_notRow 8 = .ok (.goto 33, 3) := by decide +kernel
theorem dX9_notRow_11 : decode cX9_notRow 11 = .ok (.aload_n 0, 1) := by decide +kernel
theorem dX9_notRow_12 : decode cX9_notRow 12 = .ok (.getfield 75, 3) := by decide +kernel
theorem dX9_notRow_15 : decode cX9_notRow 15 = .ok (.iload_n 1, 1) := by decide +kernel
theorem dX9_notRow_16 : decode cX9_notRow 16 = .ok (.iaload, 1) := by decide +kernel
theorem dX9_notRow_17 : decode cX9_notRow 17 = .ok (.iconst 4, 1) := by decide +kernel
theorem dX9_notRow_18 : decode cX9_notRow 18 = .ok (.if_icmp .ne 8, 3) := by decide +kernel
theorem dX9_notRow_21 : decode cX9_notRow 21 = .ok (.bipush (-2), 2) := by decide +kernel
theorem dX9_notRow_23 : decode cX9_notRow 23 = .ok (.goto 18, 3) := by decide +kernel
theorem dX9_notRow_26 : decode cX9_notRow 26 = .ok (.aload_n 0, 1) := by decide +kernel
theorem dX9_notRow_27 : decode cX9_notRow 27 = .ok (.getfield 75, 3) := by decide +kernel
theorem dX9_notRow_30 : decode cX9_notRow 30 = .ok (.iload_n 1, 1) := by decide +kernel
theorem dX9_notRow_31 : decode cX9_notRow 31 = .ok (.iaload, 1) := by decide +kernel
theorem dX9_notRow_32 : decode cX9_notRow 32 = .ok (.ifCond .ge 8, 3) := by decide +kernel
theorem dX9_notRow_35 : decode cX9_notRow 35 = .ok (.bipush (-3), 2) := by decide +kernel
theorem dX9_notRow_37 : decode cX9_notRow 37 = .ok (.goto 4, 3) := by decide +kernel
theorem dX9_notRow_40 : decode cX9_notRow 40 = .ok (.iconst 0, 1) := by decide +kernel
theorem dX9_notRow_41 : decode cX9_notRow 41 = .ok (.ireturn, 1) := by decide +kernel
theorem dX9_intAt_0 : decode cX9_intAt 0 = .ok (.aload_n 0, 1) := by decide +kernel
theorem dX9_intAt_1 : decode cX9_intAt 1 = .ok (.getfield 84, 3) := by decide +kernel
theorem dX9_intAt_4 : decode cX9_intAt 4 = .ok (.sipush 160, 3) := by decide +kernel
theorem dX9_intAt_7 : decode cX9_intAt 7 = .ok (.iload_n 1, 1) := by decide +kernel
theorem dX9_intAt_8 : decode cX9_intAt 8 = .ok (.imul, 1) := by decide +kernel
theorem dX9_intAt_9 : decode cX9_intAt 9 = .ok (.iload_n 2, 1) := by decide +kernel
theorem dX9_intAt_10 : decode cX9_intAt 10 = .ok (.iadd, 1) := by decide +kernel
theorem dX9_intAt_11 : decode cX9_intAt 11 = .ok (.laload, 1) := by decide +kernel
theorem dX9_intAt_12 : decode cX9_intAt 12 = .ok (.l2i, 1) := by decide +kernel
theorem dX9_intAt_13 : decode cX9_intAt 13 = .ok (.ireturn, 1) := by decide +kernel
theorem dX9_row_0 : decode cX9_row 0 = .ok (.iload_n 1, 1) := by decide +kernel
theorem dX9_row_1 : decode cX9_row 1 = .ok (.invokestatic 164, 3) := by decide +kernel
theorem dX9_row_4 : decode cX9_row 4 = .ok (.ifCond .ne 7, 3) := by decide +kernel
theorem dX9_row_7 : decode cX9_row 7 = .ok (.iconst (-1), 1) := by decide +kernel
theorem dX9_row_8 : decode cX9_row 8 = .ok (.goto 39, 3) := by decide +kernel
theorem dX9_row_11 : decode cX9_row 11 = .ok (.iload_n 3, 1) := by decide +kernel
theorem dX9_row_12 : decode cX9_row 12 = .ok (.ifCond .ge 8, 3) := by decide +kernel
theorem dX9_row_15 : decode cX9_row 15 = .ok (.bipush (-4), 2) := by decide +kernel
theorem dX9_row_17 : decode cX9_row 17 = .ok (.goto 30, 3) := by decide +kernel
theorem dX9_row_20 : decode cX9_row 20 = .ok (.iload_n 2, 1) := by decide +kernel
theorem dX9_row_21 : decode cX9_row 21 = .ok (.iconst 0, 1) := by decide +kernel
theorem dX9_row_22 : decode cX9_row 22 = .ok (.iconst 3, 1) := by decide +kernel
theorem dX9_row_23 : decode cX9_row 23 = .ok (.invokestatic 167, 3) := by decide +kernel
theorem dX9_row_26 : decode cX9_row 26 = .ok (.ifCond .ne 8, 3) := by decide +kernel
theorem dX9_row_29 : decode cX9_row 29 = .ok (.bipush (-6), 2) := by decide +kernel
theorem dX9_row_31 : decode cX9_row 31 = .ok (.goto 16, 3) := by decide +kernel
theorem dX9_row_34 : decode cX9_row 34 = .ok (.iload_n 3, 1) := by decide +kernel
theorem dX9_row_35 : decode cX9_row 35 = .ok (.sipush 160, 3) := by decide +kernel
theorem dX9_row_38 : decode cX9_row 38 = .ok (.if_icmp .le 8, 3) := by decide +kernel
theorem dX9_row_41 : decode cX9_row 41 = .ok (.bipush (-7), 2) := by decide +kernel
theorem dX9_row_43 : decode cX9_row 43 = .ok (.goto 4, 3) := by decide +kernel
theorem dX9_row_46 : decode cX9_row 46 = .ok (.iconst 0, 1) := by decide +kernel
theorem dX9_row_47 : decode cX9_row 47 = .ok (.istore 4, 2) := by decide +kernel
theorem dX9_row_49 : decode cX9_row 49 = .ok (.iload 4, 2) := by decide +kernel
theorem dX9_row_51 : decode cX9_row 51 = .ok (.ifCond .eq 10, 3) := by decide +kernel
theorem dX9_row_54 : decode cX9_row 54 = .ok (.aload_n 0, 1) := by decide +kernel
theorem dX9_row_55 : decode cX9_row 55 = .ok (.iload 4, 2) := by decide +kernel
theorem dX9_row_57 : decode cX9_row 57 = .ok (.invokevirtual 171, 3) := by decide +kernel
theorem dX9_row_60 : decode cX9_row 60 = .ok (.ireturn, 1) := by decide +kernel
theorem dX9_row_61 : decode cX9_row 61 = .ok (.aload_n 0, 1) := by decide +kernel
theorem dX9_row_62 : decode cX9_row 62 = .ok (.getfield 75, 3) := by decide +kernel
theorem dX9_row_65 : decode cX9_row 65 = .ok (.iload_n 1, 1) := by decide +kernel
theorem dX9_row_66 : decode cX9_row 66 = .ok (.iload_n 2, 1) := by decide +kernel
theorem dX9_row_67 : decode cX9_row 67 = .ok (.iastore, 1) := by decide +kernel
theorem dX9_row_68 : decode cX9_row 68 = .ok (.aload_n 0, 1) := by decide +kernel
theorem dX9_row_69 : decode cX9_row 69 = .ok (.getfield 78, 3) := by decide +kernel
theorem dX9_row_72 : decode cX9_row 72 = .ok (.iload_n 1, 1) := by decide +kernel
theorem dX9_row_73 : decode cX9_row 73 = .ok (.iload_n 3, 1) := by decide +kernel
theorem dX9_row_74 : decode cX9_row 74 = .ok (.iastore, 1) := by decide +kernel
theorem dX9_row_75 : decode cX9_row 75 = .ok (.iconst 0, 1) := by decide +kernel
theorem dX9_row_76 : decode cX9_row 76 = .ok (.istore 5, 2) := by decide +kernel
theorem dX9_row_78 : decode cX9_row 78 = .ok (.iload 5, 2) := by decide +kernel
theorem dX9_row_80 : decode cX9_row 80 = .ok (.iload_n 3, 1) := by decide +kernel
theorem dX9_row_81 : decode cX9_row 81 = .ok (.if_icmp .ge 23, 3) := by decide +kernel
theorem dX9_row_84 : decode cX9_row 84 = .ok (.aload_n 0, 1) := by decide +kernel
theorem dX9_row_85 : decode cX9_row 85 = .ok (.getfield 84, 3) := by decide +kernel
theorem dX9_row_88 : decode cX9_row 88 = .ok (.sipush 160, 3) := by decide +kernel
theorem dX9_row_91 : decode cX9_row 91 = .ok (.iload_n 1, 1) := by decide +kernel
theorem dX9_row_92 : decode cX9_row 92 = .ok (.imul, 1) := by decide +kernel
theorem dX9_row_93 : decode cX9_row 93 = .ok (.iload 5, 2) := by decide +kernel
theorem dX9_row_95 : decode cX9_row 95 = .ok (.iadd, 1) := by decide +kernel
theorem dX9_row_96 : decode cX9_row 96 = .ok (.lconst 0, 1) := by decide +kernel
theorem dX9_row_97 : decode cX9_row 97 = .ok (.lastore, 1) := by decide +kernel
theorem dX9_row_98 : decode cX9_row 98 = .ok (.iinc 5 1, 3) := by decide +kernel
theorem dX9_row_101 : decode cX9_row 101 = .ok (.goto (-23), 3) := by decide +kernel
theorem dX9_row_104 : decode cX9_row 104 = .ok (.iconst 1, 1) := by decide +kernel
theorem dX9_row_105 : decode cX9_row 105 = .ok (.ireturn, 1) := by decide +kernel
theorem dX9_cutTo_0 : decode cX9_cutTo 0 = .ok (.iload_n 0, 1) := by decide +kernel
theorem dX9_cutTo_1 : decode cX9_cutTo 1 = .ok (.ifCond .ne 10, 3) := by decide +kernel
theorem dX9_cutTo_4 : decode cX9_cutTo 4 = .ok (.lload_n 1, 1) := by decide +kernel
theorem dX9_cutTo_5 : decode cX9_cutTo 5 = .ok (.l2i, 1) := by decide +kernel
theorem dX9_cutTo_6 : decode cX9_cutTo 6 = .ok (.i2b, 1) := by decide +kernel
theorem dX9_cutTo_7 : decode cX9_cutTo 7 = .ok (.i2l, 1) := by decide +kernel
theorem dX9_cutTo_8 : decode cX9_cutTo 8 = .ok (.goto 27, 3) := by decide +kernel
theorem dX9_cutTo_11 : decode cX9_cutTo 11 = .ok (.iload_n 0, 1) := by decide +kernel
theorem dX9_cutTo_12 : decode cX9_cutTo 12 = .ok (.iconst 1, 1) := by decide +kernel
theorem dX9_cutTo_13 : decode cX9_cutTo 13 = .ok (.if_icmp .ne 10, 3) := by decide +kernel
theorem dX9_cutTo_16 : decode cX9_cutTo 16 = .ok (.lload_n 1, 1) := by decide +kernel
theorem dX9_cutTo_17 : decode cX9_cutTo 17 = .ok (.l2i, 1) := by decide +kernel
theorem dX9_cutTo_18 : decode cX9_cutTo 18 = .ok (.i2s, 1) := by decide +kernel
theorem dX9_cutTo_19 : decode cX9_cutTo 19 = .ok (.i2l, 1) := by decide +kernel
theorem dX9_cutTo_20 : decode cX9_cutTo 20 = .ok (.goto 15, 3) := by decide +kernel
theorem dX9_cutTo_23 : decode cX9_cutTo 23 = .ok (.iload_n 0, 1) := by decide +kernel
theorem dX9_cutTo_24 : decode cX9_cutTo 24 = .ok (.iconst 2, 1) := by decide +kernel
theorem dX9_cutTo_25 : decode cX9_cutTo 25 = .ok (.if_icmp .ne 9, 3) := by decide +kernel
theorem dX9_cutTo_28 : decode cX9_cutTo 28 = .ok (.lload_n 1, 1) := by decide +kernel
theorem dX9_cutTo_29 : decode cX9_cutTo 29 = .ok (.l2i, 1) := by decide +kernel
theorem dX9_cutTo_30 : decode cX9_cutTo 30 = .ok (.i2l, 1) := by decide +kernel
theorem dX9_cutTo_31 : decode cX9_cutTo 31 = .ok (.goto 4, 3) := by decide +kernel
theorem dX9_cutTo_34 : decode cX9_cutTo 34 = .ok (.lload_n 1, 1) := by decide +kernel
theorem dX9_cutTo_35 : decode cX9_cutTo 35 = .ok (.lreturn, 1) := by decide +kernel
theorem dX9_set_0 : decode cX9_set 0 = .ok (.aload_n 0, 1) := by decide +kernel
theorem dX9_set_1 : decode cX9_set 1 = .ok (.iload_n 1, 1) := by decide +kernel
theorem dX9_set_2 : decode cX9_set 2 = .ok (.invokevirtual 174, 3) := by decide +kernel
theorem dX9_set_5 : decode cX9_set 5 = .ok (.istore 5, 2) := by decide +kernel
theorem dX9_set_7 : decode cX9_set 7 = .ok (.iload 5, 2) := by decide +kernel
theorem dX9_set_9 : decode cX9_set 9 = .ok (.ifCond .ne 23, 3) := by decide +kernel
theorem dX9_set_12 : decode cX9_set 12 = .ok (.iload_n 2, 1) := by decide +kernel
theorem dX9_set_13 : decode cX9_set 13 = .ok (.iconst 0, 1) := by decide +kernel
theorem dX9_set_14 : decode cX9_set 14 = .ok (.aload_n 0, 1) := by decide +kernel
theorem dX9_set_15 : decode cX9_set 15 = .ok (.getfield 78, 3) := by decide +kernel
theorem dX9_set_18 : decode cX9_set 18 = .ok (.iload_n 1, 1) := by decide +kernel
theorem dX9_set_19 : decode cX9_set 19 = .ok (.iaload, 1) := by decide +kernel
theorem dX9_set_20 : decode cX9_set 20 = .ok (.iconst 1, 1) := by decide +kernel
theorem dX9_set_21 : decode cX9_set 21 = .ok (.isub, 1) := by decide +kernel
theorem dX9_set_22 : decode cX9_set 22 = .ok (.invokestatic 167, 3) := by decide +kernel
theorem dX9_set_25 : decode cX9_set 25 = .ok (.ifCond .ne 7, 3) := by decide +kernel
theorem dX9_set_28 : decode cX9_set 28 = .ok (.bipush (-5), 2) := by decide +kernel
theorem dX9_set_30 : decode cX9_set 30 = .ok (.istore 5, 2) := by decide +kernel
theorem dX9_set_32 : decode cX9_set 32 = .ok (.iload 5, 2) := by decide +kernel
theorem dX9_set_34 : decode cX9_set 34 = .ok (.ifCond .eq 10, 3) := by decide +kernel
theorem dX9_set_37 : decode cX9_set 37 = .ok (.aload_n 0, 1) := by decide +kernel
theorem dX9_set_38 : decode cX9_set 38 = .ok (.iload 5, 2) := by decide +kernel
theorem dX9_set_40 : decode cX9_set 40 = .ok (.invokevirtual 171, 3) := by decide +kernel
theorem dX9_set_43 : decode cX9_set 43 = .ok (.ireturn, 1) := by decide +kernel
theorem dX9_set_44 : decode cX9_set 44 = .ok (.aload_n 0, 1) := by decide +kernel
theorem dX9_set_45 : decode cX9_set 45 = .ok (.getfield 84, 3) := by decide +kernel
theorem dX9_set_48 : decode cX9_set 48 = .ok (.sipush 160, 3) := by decide +kernel
theorem dX9_set_51 : decode cX9_set 51 = .ok (.iload_n 1, 1) := by decide +kernel
theorem dX9_set_52 : decode cX9_set 52 = .ok (.imul, 1) := by decide +kernel
theorem dX9_set_53 : decode cX9_set 53 = .ok (.iload_n 2, 1) := by decide +kernel
theorem dX9_set_54 : decode cX9_set 54 = .ok (.iadd, 1) := by decide +kernel
theorem dX9_set_55 : decode cX9_set 55 = .ok (.aload_n 0, 1) := by decide +kernel
theorem dX9_set_56 : decode cX9_set 56 = .ok (.getfield 75, 3) := by decide +kernel
theorem dX9_set_59 : decode cX9_set 59 = .ok (.iload_n 1, 1) := by decide +kernel
theorem dX9_set_60 : decode cX9_set 60 = .ok (.iaload, 1) := by decide +kernel
theorem dX9_set_61 : decode cX9_set 61 = .ok (.lload_n 3, 1) := by decide +kernel
theorem dX9_set_62 : decode cX9_set 62 = .ok (.invokestatic 177, 3) := by decide +kernel
theorem dX9_set_65 : decode cX9_set 65 = .ok (.lastore, 1) := by decide +kernel
theorem dX9_set_66 : decode cX9_set 66 = .ok (.iconst 1, 1) := by decide +kernel
theorem dX9_set_67 : decode cX9_set 67 = .ok (.ireturn, 1) := by decide +kernel
theorem dX9_hasCells_0 : decode cX9_hasCells 0 = .ok (.iload_n 2, 1) := by decide +kernel
theorem dX9_hasCells_1 : decode cX9_hasCells 1 = .ok (.ifCond .lt 29, 3) := by decide +kernel
theorem dX9_hasCells_4 : decode cX9_hasCells 4 = .ok (.iload_n 2, 1) := by decide +kernel
theorem dX9_hasCells_5 : decode cX9_hasCells 5 = .ok (.aload_n 0, 1) := by decide +kernel
theorem dX9_hasCells_6 : decode cX9_hasCells 6 = .ok (.getfield 78, 3) := by decide +kernel
theorem dX9_hasCells_9 : decode cX9_hasCells 9 = .ok (.iload_n 1, 1) := by decide +kernel
theorem dX9_hasCells_10 : decode cX9_hasCells 10 = .ok (.iaload, 1) := by decide +kernel
theorem dX9_hasCells_11 : decode cX9_hasCells 11 = .ok (.if_icmp .gt 19, 3) := by decide +kernel
theorem dX9_hasCells_14 : decode cX9_hasCells 14 = .ok (.iload_n 3, 1) := by decide +kernel
theorem dX9_hasCells_15 : decode cX9_hasCells 15 = .ok (.aload_n 0, 1) := by decide +kernel
theorem dX9_hasCells_16 : decode cX9_hasCells 16 = .ok (.getfield 78, 3) := by decide +kernel
theorem dX9_hasCells_19 : decode cX9_hasCells 19 = .ok (.iload_n 1, 1) := by decide +kernel
theorem dX9_hasCells_20 : decode cX9_hasCells 20 = .ok (.iaload, 1) := by decide +kernel
theorem dX9_hasCells_21 : decode cX9_hasCells 21 = .ok (.iload_n 2, 1) := by decide +kernel
theorem dX9_hasCells_22 : decode cX9_hasCells 22 = .ok (.isub, 1) := by decide +kernel
theorem dX9_hasCells_23 : decode cX9_hasCells 23 = .ok (.if_icmp .gt 7, 3) := by decide +kernel
theorem dX9_hasCells_26 : decode cX9_hasCells 26 = .ok (.iconst 1, 1) := by decide +kernel
theorem dX9_hasCells_27 : decode cX9_hasCells 27 = .ok (.goto 4, 3) := by decide +kernel
theorem dX9_hasCells_30 : decode cX9_hasCells 30 = .ok (.iconst 0, 1) := by decide +kernel
theorem dX9_hasCells_31 : decode cX9_hasCells 31 = .ok (.ireturn, 1) := by decide +kernel
theorem dX9_notCopy_0 : decode cX9_notCopy 0 = .ok (.iload_n 1, 1) := by decide +kernel
theorem dX9_notCopy_1 : decode cX9_notCopy 1 = .ok (.invokestatic 164, 3) := by decide +kernel
theorem dX9_notCopy_4 : decode cX9_notCopy 4 = .ok (.ifCond .eq 10, 3) := by decide +kernel
theorem dX9_notCopy_7 : decode cX9_notCopy 7 = .ok (.iload_n 2, 1) := by decide +kernel
theorem dX9_notCopy_8 : decode cX9_notCopy 8 = .ok (.invokestatic 164, 3) := by decide +kernel
theorem dX9_notCopy_11 : decode cX9_notCopy 11 = .ok (.ifCond .ne 5, 3) := by decide +kernel
theorem dX9_notCopy_14 : decode cX9_notCopy 14 = .ok (.iconst (-1), 1) := by decide +kernel
theorem dX9_notCopy_15 : decode cX9_notCopy 15 = .ok (.ireturn, 1) := by decide +kernel
theorem dX9_notCopy_16 : decode cX9_notCopy 16 = .ok (.aload_n 0, 1) := by decide +kernel
theorem dX9_notCopy_17 : decode cX9_notCopy 17 = .ok (.getfield 75, 3) := by decide +kernel
theorem dX9_notCopy_20 : decode cX9_notCopy 20 = .ok (.iload_n 1, 1) := by decide +kernel
theorem dX9_notCopy_21 : decode cX9_notCopy 21 = .ok (.iaload, 1) := by decide +kernel
theorem dX9_notCopy_22 : decode cX9_notCopy 22 = .ok (.ifCond .lt 16, 3) := by decide +kernel
theorem dX9_notCopy_25 : decode cX9_notCopy 25 = .ok (.aload_n 0, 1) := by decide +kernel
theorem dX9_notCopy_26 : decode cX9_notCopy 26 = .ok (.getfield 75, 3) := by decide +kernel
theorem dX9_notCopy_29 : decode cX9_notCopy 29 = .ok (.iload_n 2, 1) := by decide +kernel
theorem dX9_notCopy_30 : decode cX9_notCopy 30 = .ok (.iaload, 1) := by decide +kernel
theorem dX9_notCopy_31 : decode cX9_notCopy 31 = .ok (.ifCond .lt 7, 3) := by decide +kernel
theorem dX9_notCopy_34 : decode cX9_notCopy 34 = .ok (.iconst 1, 1) := by decide +kernel
theorem dX9_notCopy_35 : decode cX9_notCopy 35 = .ok (.goto 4, 3) := by decide +kernel
theorem dX9_notCopy_38 : decode cX9_notCopy 38 = .ok (.iconst 0, 1) := by decide +kernel
theorem dX9_notCopy_39 : decode cX9_notCopy 39 = .ok (.istore 6, 2) := by decide +kernel
theorem dX9_notCopy_41 : decode cX9_notCopy 41 = .ok (.aload_n 0, 1) := by decide +kernel
theorem dX9_notCopy_42 : decode cX9_notCopy 42 = .ok (.getfield 75, 3) := by decide +kernel
theorem dX9_notCopy_45 : decode cX9_notCopy 45 = .ok (.iload_n 1, 1) := by decide +kernel
theorem dX9_notCopy_46 : decode cX9_notCopy 46 = .ok (.iaload, 1) := by decide +kernel
theorem dX9_notCopy_47 : decode cX9_notCopy 47 = .ok (.iconst 4, 1) := by decide +kernel
theorem dX9_notCopy_48 : decode cX9_notCopy 48 = .ok (.if_icmp .eq 33, 3) := by decide +kernel
theorem dX9_notCopy_51 : decode cX9_notCopy 51 = .ok (.aload_n 0, 1) := by decide +kernel
theorem dX9_notCopy_52 : decode cX9_notCopy 52 = .ok (.getfield 75, 3) := by decide +kernel
theorem dX9_notCopy_55 : decode cX9_notCopy 55 = .ok (.iload_n 2, 1) := by decide +kernel
theorem dX9_notCopy_56 : decode cX9_notCopy 56 = .ok (.iaload, 1) := by decide +kernel
theorem dX9_notCopy_57 : decode cX9_notCopy 57 = .ok (.iconst 4, 1) := by decide +kernel
theorem dX9_notCopy_58 : decode cX9_notCopy 58 = .ok (.if_icmp .eq 23, 3) := by decide +kernel
theorem dX9_notCopy_61 : decode cX9_notCopy 61 = .ok (.iload 6, 2) := by decide +kernel
theorem dX9_notCopy_63 : decode cX9_notCopy 63 = .ok (.ifCond .eq 21, 3) := by decide +kernel
theorem dX9_notCopy_66 : decode cX9_notCopy 66 = .ok (.aload_n 0, 1) := by decide +kernel
theorem dX9_notCopy_67 : decode cX9_notCopy 67 = .ok (.getfield 75, 3) := by decide +kernel
theorem dX9_notCopy_70 : decode cX9_notCopy 70 = .ok (.iload_n 1, 1) := by decide +kernel
theorem dX9_notCopy_71 : decode cX9_notCopy 71 = .ok (.iaload, 1) := by decide +kernel
theorem dX9_notCopy_72 : decode cX9_notCopy 72 = .ok (.aload_n 0, 1) := by decide +kernel
theorem dX9_notCopy_73 : decode cX9_notCopy 73 = .ok (.getfield 75, 3) := by decide +kernel
theorem dX9_notCopy_76 : decode cX9_notCopy 76 = .ok (.iload_n 2, 1) := by decide +kernel
theorem dX9_notCopy_77 : decode cX9_notCopy 77 = .ok (.iaload, 1) := by decide +kernel
theorem dX9_notCopy_78 : decode cX9_notCopy 78 = .ok (.if_icmp .eq 6, 3) := by decide +kernel
theorem dX9_notCopy_81 : decode cX9_notCopy 81 = .ok (.bipush (-2), 2) := by decide +kernel
theorem dX9_notCopy_83 : decode cX9_notCopy 83 = .ok (.ireturn, 1) := by decide +kernel
theorem dX9_notCopy_84 : decode cX9_notCopy 84 = .ok (.iload 6, 2) := by decide +kernel
theorem dX9_notCopy_86 : decode cX9_notCopy 86 = .ok (.ifCond .ne 6, 3) := by decide +kernel
theorem dX9_notCopy_89 : decode cX9_notCopy 89 = .ok (.bipush (-3), 2) := by decide +kernel
theorem dX9_notCopy_91 : decode cX9_notCopy 91 = .ok (.ireturn, 1) := by decide +kernel
theorem dX9_notCopy_92 : decode cX9_notCopy 92 = .ok (.iload 5, 2) := by decide +kernel
theorem dX9_notCopy_94 : decode cX9_notCopy 94 = .ok (.ifCond .ge 8, 3) := by decide +kernel
theorem dX9_notCopy_97 : decode cX9_notCopy 97 = .ok (.bipush (-4), 2) := by decide +kernel
theorem dX9_notCopy_99 : decode cX9_notCopy 99 = .ok (.goto 32, 3) := by decide +kernel
theorem dX9_notCopy_102 : decode cX9_notCopy 102 = .ok (.aload_n 0, 1) := by decide +kernel
theorem dX9_notCopy_103 : decode cX9_notCopy 103 = .ok (.iload_n 1, 1) := by decide +kernel
theorem dX9_notCopy_104 : decode cX9_notCopy 104 = .ok (.iload_n 3, 1) := by decide +kernel
theorem dX9_notCopy_105 : decode cX9_notCopy 105 = .ok (.iload 5, 2) := by decide +kernel
theorem dX9_notCopy_107 : decode cX9_notCopy 107 = .ok (.invokevirtual 181, 3) := by decide +kernel
theorem dX9_notCopy_110 : decode cX9_notCopy 110 = .ok (.ifCond .eq 15, 3) := by decide +kernel
theorem dX9_notCopy_113 : decode cX9_notCopy 113 = .ok (.aload_n 0, 1) := by decide +kernel
theorem dX9_notCopy_114 : decode cX9_notCopy 114 = .ok (.iload_n 2, 1) := by decide +kernel
theorem dX9_notCopy_115 : decode cX9_notCopy 115 = .ok (.iload 4, 2) := by decide +kernel
theorem dX9_notCopy_117 : decode cX9_notCopy 117 = .ok (.iload 5, 2) := by decide +kernel
theorem dX9_notCopy_119 : decode cX9_notCopy 119 = .ok (.invokevirtual 181, 3) := by decide +kernel
theorem dX9_notCopy_122 : decode cX9_notCopy 122 = .ok (.ifCond .ne 8, 3) := by decide +kernel
theorem dX9_notCopy_125 : decode cX9_notCopy 125 = .ok (.bipush (-5), 2) := by decide +kernel
theorem dX9_notCopy_127 : decode cX9_notCopy 127 = .ok (.goto 4, 3) := by decide +kernel
theorem dX9_notCopy_130 : decode cX9_notCopy 130 = .ok (.iconst 0, 1) := by decide +kernel
theorem dX9_notCopy_131 : decode cX9_notCopy 131 = .ok (.ireturn, 1) := by decide +kernel
theorem dX9_copy_0 : decode cX9_copy 0 = .ok (.aload_n 0, 1) := by decide +kernel
theorem dX9_copy_1 : decode cX9_copy 1 = .ok (.iload_n 1, 1) := by decide +kernel
theorem dX9_copy_2 : decode cX9_copy 2 = .ok (.iload_n 2, 1) := by decide +kernel
theorem dX9_copy_3 : decode cX9_copy 3 = .ok (.iload_n 3, 1) := by decide +kernel
theorem dX9_copy_4 : decode cX9_copy 4 = .ok (.iload 4, 2) := by decide +kernel
theorem dX9_copy_6 : decode cX9_copy 6 = .ok (.iload 5, 2) := by decide +kernel
theorem dX9_copy_8 : decode cX9_copy 8 = .ok (.invokevirtual 184, 3) := by decide +kernel
theorem dX9_copy_11 : decode cX9_copy 11 = .ok (.istore 6, 2) := by decide +kernel
theorem dX9_copy_13 : decode cX9_copy 13 = .ok (.iload 6, 2) := by decide +kernel
theorem dX9_copy_15 : decode cX9_copy 15 = .ok (.ifCond .eq 10, 3) := by decide +kernel
theorem dX9_copy_18 : decode cX9_copy 18 = .ok (.aload_n 0, 1) := by decide +kernel
theorem dX9_copy_19 : decode cX9_copy 19 = .ok (.iload 6, 2) := by decide +kernel
theorem dX9_copy_21 : decode cX9_copy 21 = .ok (.invokevirtual 171, 3) := by decide +kernel
theorem dX9_copy_24 : decode cX9_copy 24 = .ok (.ireturn, 1) := by decide +kernel
theorem dX9_copy_25 : decode cX9_copy 25 = .ok (.iconst 0, 1) := by decide +kernel
theorem dX9_copy_26 : decode cX9_copy 26 = .ok (.istore 7, 2) := by decide +kernel
theorem dX9_copy_28 : decode cX9_copy 28 = .ok (.iload 7, 2) := by decide +kernel
theorem dX9_copy_30 : decode cX9_copy 30 = .ok (.iload 5, 2) := by decide +kernel
theorem dX9_copy_32 : decode cX9_copy 32 = .ok (.if_icmp .ge 31, 3) := by decide +kernel
theorem dX9_copy_35 : decode cX9_copy 35 = .ok (.aload_n 0, 1) := by decide +kernel
theorem dX9_copy_36 : decode cX9_copy 36 = .ok (.getfield 87, 3) := by decide +kernel
theorem dX9_copy_39 : decode cX9_copy 39 = .ok (.iload 7, 2) := by decide +kernel
theorem dX9_copy_41 : decode cX9_copy 41 = .ok (.aload_n 0, 1) := by decide +kernel
theorem dX9_copy_42 : decode cX9_copy 42 = .ok (.getfield 84, 3) := by decide +kernel
theorem dX9_copy_45 : decode cX9_copy 45 = .ok (.sipush 160, 3) := by decide +kernel
theorem dX9_copy_48 : decode cX9_copy 48 = .ok (.iload_n 1, 1) := by decide +kernel
theorem dX9_copy_49 : decode cX9_copy 49 = .ok (.imul, 1) := by decide +kernel
theorem dX9_copy_50 : decode cX9_copy 50 = .ok (.iload_n 3, 1) := by decide +kernel
theorem dX9_copy_51 : decode cX9_copy 51 = .ok (.iadd, 1) := by decide +kernel
theorem dX9_copy_52 : decode cX9_copy 52 = .ok (.iload 7, 2) := by decide +kernel
theorem dX9_copy_54 : decode cX9_copy 54 = .ok (.iadd, 1) := by decide +kernel
theorem dX9_copy_55 : decode cX9_copy 55 = .ok (.laload, 1) := by decide +kernel
theorem dX9_copy_56 : decode cX9_copy 56 = .ok (.lastore, 1) := by decide +kernel
theorem dX9_copy_57 : decode cX9_copy 57 = .ok (.iinc 7 1, 3) := by decide +kernel
theorem dX9_copy_60 : decode cX9_copy 60 = .ok (.goto (-32), 3) := by decide +kernel
theorem dX9_copy_63 : decode cX9_copy 63 = .ok (.iconst 0, 1) := by decide +kernel
theorem dX9_copy_64 : decode cX9_copy 64 = .ok (.istore 7, 2) := by decide +kernel
theorem dX9_copy_66 : decode cX9_copy 66 = .ok (.iload 7, 2) := by decide +kernel
theorem dX9_copy_68 : decode cX9_copy 68 = .ok (.iload 5, 2) := by decide +kernel
theorem dX9_copy_70 : decode cX9_copy 70 = .ok (.if_icmp .ge 32, 3) := by decide +kernel
theorem dX9_copy_73 : decode cX9_copy 73 = .ok (.aload_n 0, 1) := by decide +kernel
theorem dX9_copy_74 : decode cX9_copy 74 = .ok (.getfield 84, 3) := by decide +kernel
theorem dX9_copy_77 : decode cX9_copy 77 = .ok (.sipush 160, 3) := by decide +kernel
theorem dX9_copy_80 : decode cX9_copy 80 = .ok (.iload_n 2, 1) := by decide +kernel
theorem dX9_copy_81 : decode cX9_copy 81 = .ok (.imul, 1) := by decide +kernel
theorem dX9_copy_82 : decode cX9_copy 82 = .ok (.iload 4, 2) := by decide +kernel
theorem dX9_copy_84 : decode cX9_copy 84 = .ok (.iadd, 1) := by decide +kernel
theorem dX9_copy_85 : decode cX9_copy 85 = .ok (.iload 7, 2) := by decide +kernel
theorem dX9_copy_87 : decode cX9_copy 87 = .ok (.iadd, 1) := by decide +kernel
theorem dX9_copy_88 : decode cX9_copy 88 = .ok (.aload_n 0, 1) := by decide +kernel
theorem dX9_copy_89 : decode cX9_copy 89 = .ok (.getfield 87, 3) := by decide +kernel
theorem dX9_copy_92 : decode cX9_copy 92 = .ok (.iload 7, 2) := by decide +kernel
theorem dX9_copy_94 : decode cX9_copy 94 = .ok (.laload, 1) := by decide +kernel
theorem dX9_copy_95 : decode cX9_copy 95 = .ok (.lastore, 1) := by decide +kernel
theorem dX9_copy_96 : decode cX9_copy 96 = .ok (.iinc 7 1, 3) := by decide +kernel
theorem dX9_copy_99 : decode cX9_copy 99 = .ok (.goto (-33), 3) := by decide +kernel
theorem dX9_copy_102 : decode cX9_copy 102 = .ok (.iconst 1, 1) := by decide +kernel
theorem dX9_copy_103 : decode cX9_copy 103 = .ok (.ireturn, 1) := by decide +kernel
theorem dX9_element_0 : decode cX9_element 0 = .ok (.iload_n 1, 1) := by decide +kernel
theorem dX9_element_1 : decode cX9_element 1 = .ok (.invokestatic 164, 3) := by decide +kernel
theorem dX9_element_4 : decode cX9_element 4 = .ok (.ifCond .eq 48, 3) := by decide +kernel
theorem dX9_element_7 : decode cX9_element 7 = .ok (.aload_n 0, 1) := by decide +kernel
theorem dX9_element_8 : decode cX9_element 8 = .ok (.getfield 75, 3) := by decide +kernel
theorem dX9_element_11 : decode cX9_element 11 = .ok (.iload_n 1, 1) := by decide +kernel
theorem dX9_element_12 : decode cX9_element 12 = .ok (.iaload, 1) := by decide +kernel
theorem dX9_element_13 : decode cX9_element 13 = .ok (.iconst 0, 1) := by decide +kernel
theorem dX9_element_14 : decode cX9_element 14 = .ok (.iconst 3, 1) := by decide +kernel
theorem dX9_element_15 : decode cX9_element 15 = .ok (.invokestatic 167, 3) := by decide +kernel
theorem dX9_element_18 : decode cX9_element 18 = .ok (.ifCond .eq 34, 3) := by decide +kernel
theorem dX9_element_21 : decode cX9_element 21 = .ok (.iload_n 2, 1) := by decide +kernel
theorem dX9_element_22 : decode cX9_element 22 = .ok (.iconst 0, 1) := by decide +kernel
theorem dX9_element_23 : decode cX9_element 23 = .ok (.aload_n 0, 1) := by decide +kernel
theorem dX9_element_24 : decode cX9_element 24 = .ok (.getfield 78, 3) := by decide +kernel
theorem dX9_element_27 : decode cX9_element 27 = .ok (.iload_n 1, 1) := by decide +kernel
theorem dX9_element_28 : decode cX9_element 28 = .ok (.iaload, 1) := by decide +kernel
theorem dX9_element_29 : decode cX9_element 29 = .ok (.iconst 1, 1) := by decide +kernel
theorem dX9_element_30 : decode cX9_element 30 = .ok (.isub, 1) := by decide +kernel
theorem dX9_element_31 : decode cX9_element 31 = .ok (.invokestatic 167, 3) := by decide +kernel
theorem dX9_element_34 : decode cX9_element 34 = .ok (.ifCond .eq 18, 3) := by decide +kernel
theorem dX9_element_37 : decode cX9_element 37 = .ok (.aload_n 0, 1) := by decide +kernel
theorem dX9_element_38 : decode cX9_element 38 = .ok (.getfield 84, 3) := by decide +kernel
theorem dX9_element_41 : decode cX9_element 41 = .ok (.sipush 160, 3) := by decide +kernel
theorem dX9_element_44 : decode cX9_element 44 = .ok (.iload_n 1, 1) := by decide +kernel
theorem dX9_element_45 : decode cX9_element 45 = .ok (.imul, 1) := by decide +kernel
theorem dX9_element_46 : decode cX9_element 46 = .ok (.iload_n 2, 1) := by decide +kernel
theorem dX9_element_47 : decode cX9_element 47 = .ok (.iadd, 1) := by decide +kernel
theorem dX9_element_48 : decode cX9_element 48 = .ok (.laload, 1) := by decide +kernel
theorem dX9_element_49 : decode cX9_element 49 = .ok (.goto 4, 3) := by decide +kernel
theorem dX9_element_52 : decode cX9_element 52 = .ok (.lconst 0, 1) := by decide +kernel
theorem dX9_element_53 : decode cX9_element 53 = .ok (.lreturn, 1) := by decide +kernel
theorem dX9_show_0 : decode cX9_show 0 = .ok (.iload_n 1, 1) := by decide +kernel
theorem dX9_show_1 : decode cX9_show 1 = .ok (.invokestatic 164, 3) := by decide +kernel
theorem dX9_show_4 : decode cX9_show 4 = .ok (.ifCond .eq 16, 3) := by decide +kernel
theorem dX9_show_7 : decode cX9_show 7 = .ok (.iload_n 2, 1) := by decide +kernel
theorem dX9_show_8 : decode cX9_show 8 = .ok (.iconst (-1), 1) := by decide +kernel
theorem dX9_show_9 : decode cX9_show 9 = .ok (.if_icmp .eq 17, 3) := by decide +kernel
theorem dX9_show_12 : decode cX9_show 12 = .ok (.aload_n 0, 1) := by decide +kernel
theorem dX9_show_13 : decode cX9_show 13 = .ok (.iload_n 2, 1) := by decide +kernel
theorem dX9_show_14 : decode cX9_show 14 = .ok (.invokevirtual 188, 3) := by decide +kernel
theorem dX9_show_17 : decode cX9_show 17 = .ok (.ifCond .ne 9, 3) := by decide +kernel
theorem dX9_show_20 : decode cX9_show 20 = .ok (.aload_n 0, 1) := by decide +kernel
theorem dX9_show_21 : decode cX9_show 21 = .ok (.iconst (-1), 1) := by decide +kernel
theorem dX9_show_22 : decode cX9_show 22 = .ok (.invokevirtual 171, 3) := by decide +kernel
theorem dX9_show_25 : decode cX9_show 25 = .ok (.ireturn, 1) := by decide +kernel
theorem dX9_show_26 : decode cX9_show 26 = .ok (.aload_n 0, 1) := by decide +kernel
theorem dX9_show_27 : decode cX9_show 27 = .ok (.getfield 75, 3) := by decide +kernel
theorem dX9_show_30 : decode cX9_show 30 = .ok (.iload_n 1, 1) := by decide +kernel
theorem dX9_show_31 : decode cX9_show 31 = .ok (.iload_n 2, 1) := by decide +kernel
theorem dX9_show_32 : decode cX9_show 32 = .ok (.iconst (-1), 1) := by decide +kernel
theorem dX9_show_33 : decode cX9_show 33 = .ok (.if_icmp .ne 7, 3) := by decide +kernel
theorem dX9_show_36 : decode cX9_show 36 = .ok (.iconst (-1), 1) := by decide +kernel
theorem dX9_show_37 : decode cX9_show 37 = .ok (.goto 4, 3) := by decide +kernel
theorem dX9_show_40 : decode cX9_show 40 = .ok (.iconst 4, 1) := by decide +kernel
theorem dX9_show_41 : decode cX9_show 41 = .ok (.iastore, 1) := by decide +kernel
theorem dX9_show_42 : decode cX9_show 42 = .ok (.aload_n 0, 1) := by decide +kernel
theorem dX9_show_43 : decode cX9_show 43 = .ok (.getfield 81, 3) := by decide +kernel
theorem dX9_show_46 : decode cX9_show 46 = .ok (.iload_n 1, 1) := by decide +kernel
theorem dX9_show_47 : decode cX9_show 47 = .ok (.iload_n 2, 1) := by decide +kernel
theorem dX9_show_48 : decode cX9_show 48 = .ok (.iastore, 1) := by decide +kernel
theorem dX9_show_49 : decode cX9_show 49 = .ok (.iload_n 2, 1) := by decide +kernel
theorem dX9_show_50 : decode cX9_show 50 = .ok (.iconst (-1), 1) := by decide +kernel
theorem dX9_show_51 : decode cX9_show 51 = .ok (.if_icmp .ne 7, 3) := by decide +kernel
theorem dX9_show_54 : decode cX9_show 54 = .ok (.iconst 0, 1) := by decide +kernel
theorem dX9_show_55 : decode cX9_show 55 = .ok (.goto 4, 3) := by decide +kernel
theorem dX9_show_58 : decode cX9_show 58 = .ok (.iconst 1, 1) := by decide +kernel
theorem dX9_show_59 : decode cX9_show 59 = .ok (.ireturn, 1) := by decide +kernel
theorem dX9_holds_0 : decode cX9_holds 0 = .ok (.iload_n 1, 1) := by decide +kernel
theorem dX9_holds_1 : decode cX9_holds 1 = .ok (.invokestatic 164, 3) := by decide +kernel
theorem dX9_holds_4 : decode cX9_holds 4 = .ok (.ifCond .eq 12, 3) := by decide +kernel
theorem dX9_holds_7 : decode cX9_holds 7 = .ok (.aload_n 0, 1) := by decide +kernel
theorem dX9_holds_8 : decode cX9_holds 8 = .ok (.getfield 75, 3) := by decide +kernel
theorem dX9_holds_11 : decode cX9_holds 11 = .ok (.iload_n 1, 1) := by decide +kernel
theorem dX9_holds_12 : decode cX9_holds 12 = .ok (.iaload, 1) := by decide +kernel
theorem dX9_holds_13 : decode cX9_holds 13 = .ok (.ifCond .ge 7, 3) := by decide +kernel
theorem dX9_holds_16 : decode cX9_holds 16 = .ok (.iconst (-1), 1) := by decide +kernel
theorem dX9_holds_17 : decode cX9_holds 17 = .ok (.goto 31, 3) := by decide +kernel
theorem dX9_holds_20 : decode cX9_holds 20 = .ok (.aload_n 0, 1) := by decide +kernel
theorem dX9_holds_21 : decode cX9_holds 21 = .ok (.getfield 75, 3) := by decide +kernel
theorem dX9_holds_24 : decode cX9_holds 24 = .ok (.iload_n 1, 1) := by decide +kernel
theorem dX9_holds_25 : decode cX9_holds 25 = .ok (.iaload, 1) := by decide +kernel
theorem dX9_holds_26 : decode cX9_holds 26 = .ok (.iconst 4, 1) := by decide +kernel
theorem dX9_holds_27 : decode cX9_holds 27 = .ok (.if_icmp .ne 12, 3) := by decide +kernel
theorem dX9_holds_30 : decode cX9_holds 30 = .ok (.aload_n 0, 1) := by decide +kernel
theorem dX9_holds_31 : decode cX9_holds 31 = .ok (.getfield 81, 3) := by decide +kernel
theorem dX9_holds_34 : decode cX9_holds 34 = .ok (.iload_n 1, 1) := by decide +kernel
theorem dX9_holds_35 : decode cX9_holds 35 = .ok (.iaload, 1) := by decide +kernel
theorem dX9_holds_36 : decode cX9_holds 36 = .ok (.goto 12, 3) := by decide +kernel
theorem dX9_holds_39 : decode cX9_holds 39 = .ok (.bipush 100, 2) := by decide +kernel
theorem dX9_holds_41 : decode cX9_holds 41 = .ok (.aload_n 0, 1) := by decide +kernel
theorem dX9_holds_42 : decode cX9_holds 42 = .ok (.getfield 75, 3) := by decide +kernel
theorem dX9_holds_45 : decode cX9_holds 45 = .ok (.iload_n 1, 1) := by decide +kernel
theorem dX9_holds_46 : decode cX9_holds 46 = .ok (.iaload, 1) := by decide +kernel
theorem dX9_holds_47 : decode cX9_holds 47 = .ok (.iadd, 1) := by decide +kernel
theorem dX9_holds_48 : decode cX9_holds 48 = .ok (.ireturn, 1) := by decide +kernel
theorem dX9_isUnder_0 : decode cX9_isUnder 0 = .ok (.iload_n 0, 1) := by decide +kernel
theorem dX9_isUnder_1 : decode cX9_isUnder 1 = .ok (.iload_n 1, 1) := by decide +kernel
theorem dX9_isUnder_2 : decode cX9_isUnder 2 = .ok (.if_icmp .eq 27, 3) := by decide +kernel
theorem dX9_isUnder_5 : decode cX9_isUnder 5 = .ok (.iload_n 1, 1) := by decide +kernel
theorem dX9_isUnder_6 : decode cX9_isUnder 6 = .ok (.ifCond .eq 23, 3) := by decide +kernel
theorem dX9_isUnder_9 : decode cX9_isUnder 9 = .ok (.iload_n 0, 1) := by decide +kernel
theorem dX9_isUnder_10 : decode cX9_isUnder 10 = .ok (.iconst 3, 1) := by decide +kernel
theorem dX9_isUnder_11 : decode cX9_isUnder 11 = .ok (.if_icmp .ne 8, 3) := by decide +kernel
theorem dX9_isUnder_14 : decode cX9_isUnder 14 = .ok (.iload_n 1, 1) := by decide +kernel
theorem dX9_isUnder_15 : decode cX9_isUnder 15 = .ok (.iconst 2, 1) := by decide +kernel
theorem dX9_isUnder_16 : decode cX9_isUnder 16 = .ok (.if_icmp .eq 13, 3) := by decide +kernel
theorem dX9_isUnder_19 : decode cX9_isUnder 19 = .ok (.iload_n 0, 1) := by decide +kernel
theorem dX9_isUnder_20 : decode cX9_isUnder 20 = .ok (.iconst 5, 1) := by decide +kernel
theorem dX9_isUnder_21 : decode cX9_isUnder 21 = .ok (.if_icmp .ne 12, 3) := by decide +kernel
theorem dX9_isUnder_24 : decode cX9_isUnder 24 = .ok (.iload_n 1, 1) := by decide +kernel
theorem dX9_isUnder_25 : decode cX9_isUnder 25 = .ok (.iconst 4, 1) := by decide +kernel
theorem dX9_isUnder_26 : decode cX9_isUnder 26 = .ok (.if_icmp .ne 7, 3) := by decide +kernel
theorem dX9_isUnder_29 : decode cX9_isUnder 29 = .ok (.iconst 1, 1) := by decide +kernel
theorem dX9_isUnder_30 : decode cX9_isUnder 30 = .ok (.goto 4, 3) := by decide +kernel
theorem dX9_isUnder_33 : decode cX9_isUnder 33 = .ok (.iconst 0, 1) := by decide +kernel
theorem dX9_isUnder_34 : decode cX9_isUnder 34 = .ok (.ireturn, 1) := by decide +kernel
theorem dX9_says_0 : decode cX9_says 0 = .ok (.iload_n 1, 1) := by decide +kernel
theorem dX9_says_1 : decode cX9_says 1 = .ok (.invokestatic 164, 3) := by decide +kernel
theorem dX9_says_4 : decode cX9_says 4 = .ok (.ifCond .eq 13, 3) := by decide +kernel
theorem dX9_says_7 : decode cX9_says 7 = .ok (.iload_n 2, 1) := by decide +kernel
theorem dX9_says_8 : decode cX9_says 8 = .ok (.iconst 0, 1) := by decide +kernel
theorem dX9_says_9 : decode cX9_says 9 = .ok (.bipush 6, 2) := by decide +kernel
theorem dX9_says_11 : decode cX9_says 11 = .ok (.invokestatic 167, 3) := by decide +kernel
theorem dX9_says_14 : decode cX9_says 14 = .ok (.ifCond .ne 9, 3) := by decide +kernel
theorem dX9_says_17 : decode cX9_says 17 = .ok (.aload_n 0, 1) := by decide +kernel
theorem dX9_says_18 : decode cX9_says 18 = .ok (.iconst (-1), 1) := by decide +kernel
theorem dX9_says_19 : decode cX9_says 19 = .ok (.invokevirtual 171, 3) := by decide +kernel
theorem dX9_says_22 : decode cX9_says 22 = .ok (.ireturn, 1) := by decide +kernel
theorem dX9_says_23 : decode cX9_says 23 = .ok (.aload_n 0, 1) := by decide +kernel
theorem dX9_says_24 : decode cX9_says 24 = .ok (.getfield 75, 3) := by decide +kernel
theorem dX9_says_27 : decode cX9_says 27 = .ok (.iload_n 1, 1) := by decide +kernel
theorem dX9_says_28 : decode cX9_says 28 = .ok (.iaload, 1) := by decide +kernel
theorem dX9_says_29 : decode cX9_says 29 = .ok (.iconst 0, 1) := by decide +kernel
theorem dX9_says_30 : decode cX9_says 30 = .ok (.iconst 3, 1) := by decide +kernel
theorem dX9_says_31 : decode cX9_says 31 = .ok (.invokestatic 167, 3) := by decide +kernel
theorem dX9_says_34 : decode cX9_says 34 = .ok (.ifCond .eq 10, 3) := by decide +kernel
theorem dX9_says_37 : decode cX9_says 37 = .ok (.aload_n 0, 1) := by decide +kernel
theorem dX9_says_38 : decode cX9_says 38 = .ok (.bipush (-2), 2) := by decide +kernel
theorem dX9_says_40 : decode cX9_says 40 = .ok (.invokevirtual 171, 3) := by decide +kernel
theorem dX9_says_43 : decode cX9_says 43 = .ok (.ireturn, 1) := by decide +kernel
theorem dX9_says_44 : decode cX9_says 44 = .ok (.aload_n 0, 1) := by decide +kernel
theorem dX9_says_45 : decode cX9_says 45 = .ok (.getfield 75, 3) := by decide +kernel
theorem dX9_says_48 : decode cX9_says 48 = .ok (.iload_n 1, 1) := by decide +kernel
theorem dX9_says_49 : decode cX9_says 49 = .ok (.iaload, 1) := by decide +kernel
theorem dX9_says_50 : decode cX9_says 50 = .ok (.ifCond .ge 10, 3) := by decide +kernel
theorem dX9_says_53 : decode cX9_says 53 = .ok (.aload_n 0, 1) := by decide +kernel
theorem dX9_says_54 : decode cX9_says 54 = .ok (.bipush (-3), 2) := by decide +kernel
theorem dX9_says_56 : decode cX9_says 56 = .ok (.invokevirtual 171, 3) := by decide +kernel
theorem dX9_says_59 : decode cX9_says 59 = .ok (.ireturn, 1) := by decide +kernel
theorem dX9_says_60 : decode cX9_says 60 = .ok (.aload_n 0, 1) := by decide +kernel
theorem dX9_says_61 : decode cX9_says 61 = .ok (.getfield 81, 3) := by decide +kernel
theorem dX9_says_64 : decode cX9_says 64 = .ok (.iload_n 1, 1) := by decide +kernel
theorem dX9_says_65 : decode cX9_says 65 = .ok (.iaload, 1) := by decide +kernel
theorem dX9_says_66 : decode cX9_says 66 = .ok (.istore_n 3, 1) := by decide +kernel
theorem dX9_says_67 : decode cX9_says 67 = .ok (.aload_n 0, 1) := by decide +kernel
theorem dX9_says_68 : decode cX9_says 68 = .ok (.getfield 13, 3) := by decide +kernel
theorem dX9_says_71 : decode cX9_says 71 = .ok (.iload_n 3, 1) := by decide +kernel
theorem dX9_says_72 : decode cX9_says 72 = .ok (.iaload, 1) := by decide +kernel
theorem dX9_says_73 : decode cX9_says 73 = .ok (.iload_n 2, 1) := by decide +kernel
theorem dX9_says_74 : decode cX9_says 74 = .ok (.invokestatic 191, 3) := by decide +kernel
theorem dX9_says_77 : decode cX9_says 77 = .ok (.ifCond .ne 10, 3) := by decide +kernel
theorem dX9_says_80 : decode cX9_says 80 = .ok (.aload_n 0, 1) := by decide +kernel
theorem dX9_says_81 : decode cX9_says 81 = .ok (.bipush (-2), 2) := by decide +kernel
theorem dX9_says_83 : decode cX9_says 83 = .ok (.invokevirtual 171, 3) := by decide +kernel
theorem dX9_says_86 : decode cX9_says 86 = .ok (.ireturn, 1) := by decide +kernel
theorem dX9_says_87 : decode cX9_says 87 = .ok (.iload_n 2, 1) := by decide +kernel
theorem dX9_says_88 : decode cX9_says 88 = .ok (.tableswitch 69 0 5 #[40, 48, 55, 55, 62, 62], 40) := by decide +kernel
theorem dX9_says_128 : decode cX9_says 128 = .ok (.aload_n 0, 1) := by decide +kernel
theorem dX9_says_129 : decode cX9_says 129 = .ok (.iconst 0, 1) := by decide +kernel
theorem dX9_says_130 : decode cX9_says 130 = .ok (.iload_n 3, 1) := by decide +kernel
theorem dX9_says_131 : decode cX9_says 131 = .ok (.iconst 3, 1) := by decide +kernel
theorem dX9_says_132 : decode cX9_says 132 = .ok (.invokevirtual 115, 3) := by decide +kernel
theorem dX9_says_135 : decode cX9_says 135 = .ok (.ireturn, 1) := by decide +kernel
theorem dX9_says_136 : decode cX9_says 136 = .ok (.aload_n 0, 1) := by decide +kernel
theorem dX9_says_137 : decode cX9_says 137 = .ok (.getfield 16, 3) := by decide +kernel
theorem dX9_says_140 : decode cX9_says 140 = .ok (.iload_n 3, 1) := by decide +kernel
theorem dX9_says_141 : decode cX9_says 141 = .ok (.iaload, 1) := by decide +kernel
theorem dX9_says_142 : decode cX9_says 142 = .ok (.ireturn, 1) := by decide +kernel
theorem dX9_says_143 : decode cX9_says 143 = .ok (.aload_n 0, 1) := by decide +kernel
theorem dX9_says_144 : decode cX9_says 144 = .ok (.getfield 44, 3) := by decide +kernel
theorem dX9_says_147 : decode cX9_says 147 = .ok (.iload_n 3, 1) := by decide +kernel
theorem dX9_says_148 : decode cX9_says 148 = .ok (.iaload, 1) := by decide +kernel
theorem dX9_says_149 : decode cX9_says 149 = .ok (.ireturn, 1) := by decide +kernel
theorem dX9_says_150 : decode cX9_says 150 = .ok (.aload_n 0, 1) := by decide +kernel
theorem dX9_says_151 : decode cX9_says 151 = .ok (.getfield 19, 3) := by decide +kernel
theorem dX9_says_154 : decode cX9_says 154 = .ok (.iload_n 3, 1) := by decide +kernel
theorem dX9_says_155 : decode cX9_says 155 = .ok (.iaload, 1) := by decide +kernel
theorem dX9_says_156 : decode cX9_says 156 = .ok (.ireturn, 1) := by decide +kernel
theorem dX9_says_157 : decode cX9_says 157 = .ok (.aload_n 0, 1) := by decide +kernel
theorem dX9_says_158 : decode cX9_says 158 = .ok (.getfield 19, 3) := by decide +kernel
theorem dX9_says_161 : decode cX9_says 161 = .ok (.iload_n 3, 1) := by decide +kernel
theorem dX9_says_162 : decode cX9_says 162 = .ok (.iaload, 1) := by decide +kernel
theorem dX9_says_163 : decode cX9_says 163 = .ok (.aload_n 0, 1) := by decide +kernel
theorem dX9_says_164 : decode cX9_says 164 = .ok (.getfield 47, 3) := by decide +kernel
theorem dX9_says_167 : decode cX9_says 167 = .ok (.iload_n 3, 1) := by decide +kernel
theorem dX9_says_168 : decode cX9_says 168 = .ok (.iaload, 1) := by decide +kernel
theorem dX9_says_169 : decode cX9_says 169 = .ok (.if_icmp .le 19, 3) := by decide +kernel
theorem dX9_says_172 : decode cX9_says 172 = .ok (.aload_n 0, 1) := by decide +kernel
theorem dX9_says_173 : decode cX9_says 173 = .ok (.getfield 19, 3) := by decide +kernel
theorem dX9_says_176 : decode cX9_says 176 = .ok (.iload_n 3, 1) := by decide +kernel
theorem dX9_says_177 : decode cX9_says 177 = .ok (.iaload, 1) := by decide +kernel
theorem dX9_says_178 : decode cX9_says 178 = .ok (.aload_n 0, 1) := by decide +kernel
theorem dX9_says_179 : decode cX9_says 179 = .ok (.getfield 47, 3) := by decide +kernel
theorem dX9_says_182 : decode cX9_says 182 = .ok (.iload_n 3, 1) := by decide +kernel
theorem dX9_says_183 : decode cX9_says 183 = .ok (.iaload, 1) := by decide +kernel
theorem dX9_says_184 : decode cX9_says 184 = .ok (.isub, 1) := by decide +kernel
theorem dX9_says_185 : decode cX9_says 185 = .ok (.goto 4, 3) := by decide +kernel
theorem dX9_says_188 : decode cX9_says 188 = .ok (.iconst 0, 1) := by decide +kernel
theorem dX9_says_189 : decode cX9_says 189 = .ok (.ireturn, 1) := by decide +kernel
theorem dX9_makesHouse_0 : decode cX9_makesHouse 0 = .ok (.aload_n 0, 1) := by decide +kernel
theorem dX9_makesHouse_1 : decode cX9_makesHouse 1 = .ok (.getfield 13, 3) := by decide +kernel
theorem dX9_makesHouse_4 : decode cX9_makesHouse 4 = .ok (.aload_n 0, 1) := by decide +kernel
theorem dX9_makesHouse_5 : decode cX9_makesHouse 5 = .ok (.getfield 102, 3) := by decide +kernel
theorem dX9_makesHouse_8 : decode cX9_makesHouse 8 = .ok (.iload_n 1, 1) := by decide +kernel
theorem dX9_makesHouse_9 : decode cX9_makesHouse 9 = .ok (.iastore, 1) := by decide +kernel
theorem dX9_makesHouse_10 : decode cX9_makesHouse 10 = .ok (.aload_n 0, 1) := by decide +kernel
theorem dX9_makesHouse_11 : decode cX9_makesHouse 11 = .ok (.getfield 16, 3) := by decide +kernel
theorem dX9_makesHouse_14 : decode cX9_makesHouse 14 = .ok (.aload_n 0, 1) := by decide +kernel
theorem dX9_makesHouse_15 : decode cX9_makesHouse 15 = .ok (.getfield 102, 3) := by decide +kernel
theorem dX9_makesHouse_18 : decode cX9_makesHouse 18 = .ok (.iload_n 2, 1) := by decide +kernel
theorem dX9_makesHouse_19 : decode cX9_makesHouse 19 = .ok (.iastore, 1) := by decide +kernel
theorem dX9_makesHouse_20 : decode cX9_makesHouse 20 = .ok (.aload_n 0, 1) := by decide +kernel
theorem dX9_makesHouse_21 : decode cX9_makesHouse 21 = .ok (.getfield 19, 3) := by decide +kernel
theorem dX9_makesHouse_24 : decode cX9_makesHouse 24 = .ok (.aload_n 0, 1) := by decide +kernel
theorem dX9_makesHouse_25 : decode cX9_makesHouse 25 = .ok (.getfield 102, 3) := by decide +kernel
theorem dX9_makesHouse_28 : decode cX9_makesHouse 28 = .ok (.iload_n 3, 1) := by decide +kernel
theorem dX9_makesHouse_29 : decode cX9_makesHouse 29 = .ok (.iastore, 1) := by decide +kernel
theorem dX9_makesHouse_30 : decode cX9_makesHouse 30 = .ok (.aload_n 0, 1) := by decide +kernel
theorem dX9_makesHouse_31 : decode cX9_makesHouse 31 = .ok (.getfield 44, 3) := by decide +kernel
theorem dX9_makesHouse_34 : decode cX9_makesHouse 34 = .ok (.aload_n 0, 1) := by decide +kernel
theorem dX9_makesHouse_35 : decode cX9_makesHouse 35 = .ok (.getfield 102, 3) := by decide +kernel
theorem dX9_makesHouse_38 : decode cX9_makesHouse 38 = .ok (.iconst 0, 1) := by decide +kernel
theorem dX9_makesHouse_39 : decode cX9_makesHouse 39 = .ok (.iastore, 1) := by decide +kernel
theorem dX9_makesHouse_40 : decode cX9_makesHouse 40 = .ok (.aload_n 0, 1) := by decide +kernel
theorem dX9_makesHouse_41 : decode cX9_makesHouse 41 = .ok (.getfield 47, 3) := by decide +kernel
theorem dX9_makesHouse_44 : decode cX9_makesHouse 44 = .ok (.aload_n 0, 1) := by decide +kernel
theorem dX9_makesHouse_45 : decode cX9_makesHouse 45 = .ok (.getfield 102, 3) := by decide +kernel
theorem dX9_makesHouse_48 : decode cX9_makesHouse 48 = .ok (.iconst 0, 1) := by decide +kernel
theorem dX9_makesHouse_49 : decode cX9_makesHouse 49 = .ok (.iastore, 1) := by decide +kernel
theorem dX9_makesHouse_50 : decode cX9_makesHouse 50 = .ok (.aload_n 0, 1) := by decide +kernel
theorem dX9_makesHouse_51 : decode cX9_makesHouse 51 = .ok (.dup, 1) := by decide +kernel
theorem dX9_makesHouse_52 : decode cX9_makesHouse 52 = .ok (.getfield 102, 3) := by decide +kernel
theorem dX9_makesHouse_55 : decode cX9_makesHouse 55 = .ok (.iconst 1, 1) := by decide +kernel
theorem dX9_makesHouse_56 : decode cX9_makesHouse 56 = .ok (.iadd, 1) := by decide +kernel
theorem dX9_makesHouse_57 : decode cX9_makesHouse 57 = .ok (.putfield 102, 3) := by decide +kernel
theorem dX9_makesHouse_60 : decode cX9_makesHouse 60 = .ok (.return_, 1) := by decide +kernel
theorem dX9_house_0 : decode cX9_house 0 = .ok (.iload_n 1, 1) := by decide +kernel
theorem dX9_house_1 : decode cX9_house 1 = .ok (.iconst 0, 1) := by decide +kernel
theorem dX9_house_2 : decode cX9_house 2 = .ok (.bipush 6, 2) := by decide +kernel
theorem dX9_house_4 : decode cX9_house 4 = .ok (.invokestatic 167, 3) := by decide +kernel
theorem dX9_house_7 : decode cX9_house 7 = .ok (.ifCond .ne 7, 3) := by decide +kernel
theorem dX9_house_10 : decode cX9_house 10 = .ok (.iconst (-1), 1) := by decide +kernel
theorem dX9_house_11 : decode cX9_house 11 = .ok (.goto 37, 3) := by decide +kernel
theorem dX9_house_14 : decode cX9_house 14 = .ok (.iload_n 2, 1) := by decide +kernel
theorem dX9_house_15 : decode cX9_house 15 = .ok (.invokestatic 195, 3) := by decide +kernel
theorem dX9_house_18 : decode cX9_house 18 = .ok (.ifCond .eq 10, 3) := by decide +kernel
theorem dX9_house_21 : decode cX9_house 21 = .ok (.iload_n 3, 1) := by decide +kernel
theorem dX9_house_22 : decode cX9_house 22 = .ok (.invokestatic 195, 3) := by decide +kernel
theorem dX9_house_25 : decode cX9_house 25 = .ok (.ifCond .ne 8, 3) := by decide +kernel
theorem dX9_house_28 : decode cX9_house 28 = .ok (.bipush (-6), 2) := by decide +kernel
theorem dX9_house_30 : decode cX9_house 30 = .ok (.goto 18, 3) := by decide +kernel
theorem dX9_house_33 : decode cX9_house 33 = .ok (.aload_n 0, 1) := by decide +kernel
theorem dX9_house_34 : decode cX9_house 34 = .ok (.getfield 102, 3) := by decide +kernel
theorem dX9_house_37 : decode cX9_house 37 = .ok (.bipush 8, 2) := by decide +kernel
theorem dX9_house_39 : decode cX9_house 39 = .ok (.if_icmp .ne 8, 3) := by decide +kernel
theorem dX9_house_42 : decode cX9_house 42 = .ok (.bipush (-7), 2) := by decide +kernel
theorem dX9_house_44 : decode cX9_house 44 = .ok (.goto 4, 3) := by decide +kernel
theorem dX9_house_47 : decode cX9_house 47 = .ok (.iconst 0, 1) := by decide +kernel
theorem dX9_house_48 : decode cX9_house 48 = .ok (.istore 4, 2) := by decide +kernel
theorem dX9_house_50 : decode cX9_house 50 = .ok (.iload 4, 2) := by decide +kernel
theorem dX9_house_52 : decode cX9_house 52 = .ok (.ifCond .eq 10, 3) := by decide +kernel
theorem dX9_house_55 : decode cX9_house 55 = .ok (.aload_n 0, 1) := by decide +kernel
theorem dX9_house_56 : decode cX9_house 56 = .ok (.iload 4, 2) := by decide +kernel
theorem dX9_house_58 : decode cX9_house 58 = .ok (.invokevirtual 171, 3) := by decide +kernel
theorem dX9_house_61 : decode cX9_house 61 = .ok (.ireturn, 1) := by decide +kernel
theorem dX9_house_62 : decode cX9_house 62 = .ok (.aload_n 0, 1) := by decide +kernel
theorem dX9_house_63 : decode cX9_house 63 = .ok (.iload_n 1, 1) := by decide +kernel
theorem dX9_house_64 : decode cX9_house 64 = .ok (.iload_n 2, 1) := by decide +kernel
theorem dX9_house_65 : decode cX9_house 65 = .ok (.iload_n 3, 1) := by decide +kernel
theorem dX9_house_66 : decode cX9_house 66 = .ok (.invokevirtual 198, 3) := by decide +kernel
theorem dX9_house_69 : decode cX9_house 69 = .ok (.aload_n 0, 1) := by decide +kernel
theorem dX9_house_70 : decode cX9_house 70 = .ok (.getfield 102, 3) := by decide +kernel
theorem dX9_house_73 : decode cX9_house 73 = .ok (.iconst 1, 1) := by decide +kernel
theorem dX9_house_74 : decode cX9_house 74 = .ok (.isub, 1) := by decide +kernel
theorem dX9_house_75 : decode cX9_house 75 = .ok (.ireturn, 1) := by decide +kernel
theorem dX9_notWay_0 : decode cX9_notWay 0 = .ok (.aload_n 0, 1) := by decide +kernel
theorem dX9_notWay_1 : decode cX9_notWay 1 = .ok (.iload_n 1, 1) := by decide +kernel
theorem dX9_notWay_2 : decode cX9_notWay 2 = .ok (.invokevirtual 188, 3) := by decide +kernel
theorem dX9_notWay_5 : decode cX9_notWay 5 = .ok (.ifCond .eq 11, 3) := by decide +kernel
theorem dX9_notWay_8 : decode cX9_notWay 8 = .ok (.aload_n 0, 1) := by decide +kernel
theorem dX9_notWay_9 : decode cX9_notWay 9 = .ok (.iload_n 2, 1) := by decide +kernel
theorem dX9_notWay_10 : decode cX9_notWay 10 = .ok (.invokevirtual 188, 3) := by decide +kernel
theorem dX9_notWay_13 : decode cX9_notWay 13 = .ok (.ifCond .ne 7, 3) := by decide +kernel
theorem dX9_notWay_16 : decode cX9_notWay 16 = .ok (.iconst (-1), 1) := by decide +kernel
theorem dX9_notWay_17 : decode cX9_notWay 17 = .ok (.goto 38, 3) := by decide +kernel
theorem dX9_notWay_20 : decode cX9_notWay 20 = .ok (.iload_n 3, 1) := by decide +kernel
theorem dX9_notWay_21 : decode cX9_notWay 21 = .ok (.iconst 1, 1) := by decide +kernel
theorem dX9_notWay_22 : decode cX9_notWay 22 = .ok (.bipush 60, 2) := by decide +kernel
theorem dX9_notWay_24 : decode cX9_notWay 24 = .ok (.invokestatic 167, 3) := by decide +kernel
theorem dX9_notWay_27 : decode cX9_notWay 27 = .ok (.ifCond .eq 8, 3) := by decide +kernel
theorem dX9_notWay_30 : decode cX9_notWay 30 = .ok (.iload_n 1, 1) := by decide +kernel
theorem dX9_notWay_31 : decode cX9_notWay 31 = .ok (.iload_n 2, 1) := by decide +kernel
theorem dX9_notWay_32 : decode cX9_notWay 32 = .ok (.if_icmp .ne 8, 3) := by decide +kernel
theorem dX9_notWay_35 : decode cX9_notWay 35 = .ok (.bipush (-6), 2) := by decide +kernel
theorem dX9_notWay_37 : decode cX9_notWay 37 = .ok (.goto 18, 3) := by decide +kernel
theorem dX9_notWay_40 : decode cX9_notWay 40 = .ok (.aload_n 0, 1) := by decide +kernel
theorem dX9_notWay_41 : decode cX9_notWay 41 = .ok (.getfield 105, 3) := by decide +kernel
theorem dX9_notWay_44 : decode cX9_notWay 44 = .ok (.bipush 12, 2) := by decide +kernel
theorem dX9_notWay_46 : decode cX9_notWay 46 = .ok (.if_icmp .ne 8, 3) := by decide +kernel
theorem dX9_notWay_49 : decode cX9_notWay 49 = .ok (.bipush (-7), 2) := by decide +kernel
theorem dX9_notWay_51 : decode cX9_notWay 51 = .ok (.goto 4, 3) := by decide +kernel
theorem dX9_notWay_54 : decode cX9_notWay 54 = .ok (.iconst 0, 1) := by decide +kernel
theorem dX9_notWay_55 : decode cX9_notWay 55 = .ok (.ireturn, 1) := by decide +kernel
theorem dX9_makesWay_0 : decode cX9_makesWay 0 = .ok (.aload_n 0, 1) := by decide +kernel
theorem dX9_makesWay_1 : decode cX9_makesWay 1 = .ok (.getfield 22, 3) := by decide +kernel
theorem dX9_makesWay_4 : decode cX9_makesWay 4 = .ok (.aload_n 0, 1) := by decide +kernel
theorem dX9_makesWay_5 : decode cX9_makesWay 5 = .ok (.getfield 105, 3) := by decide +kernel
theorem dX9_makesWay_8 : decode cX9_makesWay 8 = .ok (.iload_n 1, 1) := by decide +kernel
theorem dX9_makesWay_9 : decode cX9_makesWay 9 = .ok (.iastore, 1) := by decide +kernel
theorem dX9_makesWay_10 : decode cX9_makesWay 10 = .ok (.aload_n 0, 1) := by decide +kernel
theorem dX9_makesWay_11 : decode cX9_makesWay 11 = .ok (.getfield 25, 3) := by decide +kernel
theorem dX9_makesWay_14 : decode cX9_makesWay 14 = .ok (.aload_n 0, 1) := by decide +kernel
theorem dX9_makesWay_15 : decode cX9_makesWay 15 = .ok (.getfield 105, 3) := by decide +kernel
theorem dX9_makesWay_18 : decode cX9_makesWay 18 = .ok (.iload_n 2, 1) := by decide +kernel
theorem dX9_makesWay_19 : decode cX9_makesWay 19 = .ok (.iastore, 1) := by decide +kernel
theorem dX9_makesWay_20 : decode cX9_makesWay 20 = .ok (.aload_n 0, 1) := by decide +kernel
theorem dX9_makesWay_21 : decode cX9_makesWay 21 = .ok (.getfield 28, 3) := by decide +kernel
theorem dX9_makesWay_24 : decode cX9_makesWay 24 = .ok (.aload_n 0, 1) := by decide +kernel
theorem dX9_makesWay_25 : decode cX9_makesWay 25 = .ok (.getfield 105, 3) := by decide +kernel
theorem dX9_makesWay_28 : decode cX9_makesWay 28 = .ok (.iload_n 3, 1) := by decide +kernel
theorem dX9_makesWay_29 : decode cX9_makesWay 29 = .ok (.iastore, 1) := by decide +kernel
theorem dX9_makesWay_30 : decode cX9_makesWay 30 = .ok (.aload_n 0, 1) := by decide +kernel
theorem dX9_makesWay_31 : decode cX9_makesWay 31 = .ok (.getfield 31, 3) := by decide +kernel
theorem dX9_makesWay_34 : decode cX9_makesWay 34 = .ok (.aload_n 0, 1) := by decide +kernel
theorem dX9_makesWay_35 : decode cX9_makesWay 35 = .ok (.getfield 105, 3) := by decide +kernel
theorem dX9_makesWay_38 : decode cX9_makesWay 38 = .ok (.iconst 0, 1) := by decide +kernel
theorem dX9_makesWay_39 : decode cX9_makesWay 39 = .ok (.iastore, 1) := by decide +kernel
theorem dX9_makesWay_40 : decode cX9_makesWay 40 = .ok (.aload_n 0, 1) := by decide +kernel
theorem dX9_makesWay_41 : decode cX9_makesWay 41 = .ok (.dup, 1) := by decide +kernel
theorem dX9_makesWay_42 : decode cX9_makesWay 42 = .ok (.getfield 105, 3) := by decide +kernel
theorem dX9_makesWay_45 : decode cX9_makesWay 45 = .ok (.iconst 1, 1) := by decide +kernel
theorem dX9_makesWay_46 : decode cX9_makesWay 46 = .ok (.iadd, 1) := by decide +kernel
theorem dX9_makesWay_47 : decode cX9_makesWay 47 = .ok (.putfield 105, 3) := by decide +kernel
theorem dX9_makesWay_50 : decode cX9_makesWay 50 = .ok (.return_, 1) := by decide +kernel
theorem dX9_way_0 : decode cX9_way 0 = .ok (.aload_n 0, 1) := by decide +kernel
theorem dX9_way_1 : decode cX9_way 1 = .ok (.iload_n 1, 1) := by decide +kernel
theorem dX9_way_2 : decode cX9_way 2 = .ok (.iload_n 2, 1) := by decide +kernel
theorem dX9_way_3 : decode cX9_way 3 = .ok (.iload_n 3, 1) := by decide +kernel
theorem dX9_way_4 : decode cX9_way 4 = .ok (.invokevirtual 202, 3) := by decide +kernel
theorem dX9_way_7 : decode cX9_way 7 = .ok (.istore 4, 2) := by decide +kernel
theorem dX9_way_9 : decode cX9_way 9 = .ok (.iload 4, 2) := by decide +kernel
theorem dX9_way_11 : decode cX9_way 11 = .ok (.ifCond .eq 10, 3) := by decide +kernel
theorem dX9_way_14 : decode cX9_way 14 = .ok (.aload_n 0, 1) := by decide +kernel
theorem dX9_way_15 : decode cX9_way 15 = .ok (.iload 4, 2) := by decide +kernel
theorem dX9_way_17 : decode cX9_way 17 = .ok (.invokevirtual 171, 3) := by decide +kernel
theorem dX9_way_20 : decode cX9_way 20 = .ok (.ireturn, 1) := by decide +kernel
theorem dX9_way_21 : decode cX9_way 21 = .ok (.aload_n 0, 1) := by decide +kernel
theorem dX9_way_22 : decode cX9_way 22 = .ok (.iload_n 1, 1) := by decide +kernel
theorem dX9_way_23 : decode cX9_way 23 = .ok (.iload_n 2, 1) := by decide +kernel
theorem dX9_way_24 : decode cX9_way 24 = .ok (.iload_n 3, 1) := by decide +kernel
theorem dX9_way_25 : decode cX9_way 25 = .ok (.invokevirtual 205, 3) := by decide +kernel
theorem dX9_way_28 : decode cX9_way 28 = .ok (.aload_n 0, 1) := by decide +kernel
theorem dX9_way_29 : decode cX9_way 29 = .ok (.getfield 105, 3) := by decide +kernel
theorem dX9_way_32 : decode cX9_way 32 = .ok (.iconst 1, 1) := by decide +kernel
theorem dX9_way_33 : decode cX9_way 33 = .ok (.isub, 1) := by decide +kernel
theorem dX9_way_34 : decode cX9_way 34 = .ok (.ireturn, 1) := by decide +kernel
theorem dX9_ways_0 : decode cX9_ways 0 = .ok (.aload_n 0, 1) := by decide +kernel
theorem dX9_ways_1 : decode cX9_ways 1 = .ok (.iload_n 1, 1) := by decide +kernel
theorem dX9_ways_2 : decode cX9_ways 2 = .ok (.invokevirtual 174, 3) := by decide +kernel
theorem dX9_ways_5 : decode cX9_ways 5 = .ok (.istore 4, 2) := by decide +kernel
theorem dX9_ways_7 : decode cX9_ways 7 = .ok (.iload 4, 2) := by decide +kernel
theorem dX9_ways_9 : decode cX9_ways 9 = .ok (.ifCond .ne 41, 3) := by decide +kernel
theorem dX9_ways_12 : decode cX9_ways 12 = .ok (.iload_n 3, 1) := by decide +kernel
theorem dX9_ways_13 : decode cX9_ways 13 = .ok (.ifCond .ge 8, 3) := by decide +kernel
theorem dX9_ways_16 : decode cX9_ways 16 = .ok (.bipush (-4), 2) := by decide +kernel
theorem dX9_ways_18 : decode cX9_ways 18 = .ok (.goto 30, 3) := by decide +kernel
theorem dX9_ways_21 : decode cX9_ways 21 = .ok (.aload_n 0, 1) := by decide +kernel
theorem dX9_ways_22 : decode cX9_ways 22 = .ok (.iload_n 1, 1) := by decide +kernel
theorem dX9_ways_23 : decode cX9_ways 23 = .ok (.iload_n 2, 1) := by decide +kernel
theorem dX9_ways_24 : decode cX9_ways 24 = .ok (.iload_n 3, 1) := by decide +kernel
theorem dX9_ways_25 : decode cX9_ways 25 = .ok (.invokevirtual 181, 3) := by decide +kernel
theorem dX9_ways_28 : decode cX9_ways 28 = .ok (.ifCond .ne 8, 3) := by decide +kernel
theorem dX9_ways_31 : decode cX9_ways 31 = .ok (.bipush (-5), 2) := by decide +kernel
theorem dX9_ways_33 : decode cX9_ways 33 = .ok (.goto 15, 3) := by decide +kernel
theorem dX9_ways_36 : decode cX9_ways 36 = .ok (.iload_n 3, 1) := by decide +kernel
theorem dX9_ways_37 : decode cX9_ways 37 = .ok (.iconst 3, 1) := by decide +kernel
theorem dX9_ways_38 : decode cX9_ways 38 = .ok (.irem, 1) := by decide +kernel
theorem dX9_ways_39 : decode cX9_ways 39 = .ok (.ifCond .eq 8, 3) := by decide +kernel
theorem dX9_ways_42 : decode cX9_ways 42 = .ok (.bipush (-6), 2) := by decide +kernel
theorem dX9_ways_44 : decode cX9_ways 44 = .ok (.goto 4, 3) := by decide +kernel
theorem dX9_ways_47 : decode cX9_ways 47 = .ok (.iconst 0, 1) := by decide +kernel
theorem dX9_ways_48 : decode cX9_ways 48 = .ok (.istore 4, 2) := by decide +kernel
theorem dX9_ways_50 : decode cX9_ways 50 = .ok (.iload 4, 2) := by decide +kernel
theorem dX9_ways_52 : decode cX9_ways 52 = .ok (.ifCond .eq 10, 3) := by decide +kernel
theorem dX9_ways_55 : decode cX9_ways 55 = .ok (.aload_n 0, 1) := by decide +kernel
theorem dX9_ways_56 : decode cX9_ways 56 = .ok (.iload 4, 2) := by decide +kernel
theorem dX9_ways_58 : decode cX9_ways 58 = .ok (.invokevirtual 171, 3) := by decide +kernel
theorem dX9_ways_61 : decode cX9_ways 61 = .ok (.ireturn, 1) := by decide +kernel
theorem dX9_ways_62 : decode cX9_ways 62 = .ok (.iconst 0, 1) := by decide +kernel
theorem dX9_ways_63 : decode cX9_ways 63 = .ok (.istore 5, 2) := by decide +kernel
theorem dX9_ways_65 : decode cX9_ways 65 = .ok (.iconst 3, 1) := by decide +kernel
theorem dX9_ways_66 : decode cX9_ways 66 = .ok (.iload 5, 2) := by decide +kernel
theorem dX9_ways_68 : decode cX9_ways 68 = .ok (.imul, 1) := by decide +kernel
theorem dX9_ways_69 : decode cX9_ways 69 = .ok (.iload_n 3, 1) := by decide +kernel
theorem dX9_ways_70 : decode cX9_ways 70 = .ok (.if_icmp .ge 94, 3) := by decide +kernel
theorem dX9_ways_73 : decode cX9_ways 73 = .ok (.aload_n 0, 1) := by decide +kernel
theorem dX9_ways_74 : decode cX9_ways 74 = .ok (.aload_n 0, 1) := by decide +kernel
theorem dX9_ways_75 : decode cX9_ways 75 = .ok (.iload_n 1, 1) := by decide +kernel
theorem dX9_ways_76 : decode cX9_ways 76 = .ok (.iload_n 2, 1) := by decide +kernel
theorem dX9_ways_77 : decode cX9_ways 77 = .ok (.iconst 3, 1) := by decide +kernel
theorem dX9_ways_78 : decode cX9_ways 78 = .ok (.iload 5, 2) := by decide +kernel
theorem dX9_ways_80 : decode cX9_ways 80 = .ok (.imul, 1) := by decide +kernel
theorem dX9_ways_81 : decode cX9_ways 81 = .ok (.iadd, 1) := by decide +kernel
theorem dX9_ways_82 : decode cX9_ways 82 = .ok (.invokevirtual 208, 3) := by decide +kernel
theorem dX9_ways_85 : decode cX9_ways 85 = .ok (.aload_n 0, 1) := by decide +kernel
theorem dX9_ways_86 : decode cX9_ways 86 = .ok (.iload_n 1, 1) := by decide +kernel
theorem dX9_ways_87 : decode cX9_ways 87 = .ok (.iload_n 2, 1) := by decide +kernel
theorem dX9_ways_88 : decode cX9_ways 88 = .ok (.iconst 3, 1) := by decide +kernel
theorem dX9_ways_89 : decode cX9_ways 89 = .ok (.iload 5, 2) := by decide +kernel
theorem dX9_ways_91 : decode cX9_ways 91 = .ok (.imul, 1) := by decide +kernel
theorem dX9_ways_92 : decode cX9_ways 92 = .ok (.iadd, 1) := by decide +kernel
theorem dX9_ways_93 : decode cX9_ways 93 = .ok (.iconst 1, 1) := by decide +kernel
theorem dX9_ways_94 : decode cX9_ways 94 = .ok (.iadd, 1) := by decide +kernel
theorem dX9_ways_95 : decode cX9_ways 95 = .ok (.invokevirtual 208, 3) := by decide +kernel
theorem dX9_ways_98 : decode cX9_ways 98 = .ok (.aload_n 0, 1) := by decide +kernel
theorem dX9_ways_99 : decode cX9_ways 99 = .ok (.iload_n 1, 1) := by decide +kernel
theorem dX9_ways_100 : decode cX9_ways 100 = .ok (.iload_n 2, 1) := by decide +kernel
theorem dX9_ways_101 : decode cX9_ways 101 = .ok (.iconst 3, 1) := by decide +kernel
theorem dX9_ways_102 : decode cX9_ways 102 = .ok (.iload 5, 2) := by decide +kernel
theorem dX9_ways_104 : decode cX9_ways 104 = .ok (.imul, 1) := by decide +kernel
theorem dX9_ways_105 : decode cX9_ways 105 = .ok (.iadd, 1) := by decide +kernel
theorem dX9_ways_106 : decode cX9_ways 106 = .ok (.iconst 2, 1) := by decide +kernel
theorem dX9_ways_107 : decode cX9_ways 107 = .ok (.iadd, 1) := by decide +kernel
theorem dX9_ways_108 : decode cX9_ways 108 = .ok (.invokevirtual 208, 3) := by decide +kernel
theorem dX9_ways_111 : decode cX9_ways 111 = .ok (.invokevirtual 202, 3) := by decide +kernel
theorem dX9_ways_114 : decode cX9_ways 114 = .ok (.ifCond .ne 50, 3) := by decide +kernel
theorem dX9_ways_117 : decode cX9_ways 117 = .ok (.aload_n 0, 1) := by decide +kernel
theorem dX9_ways_118 : decode cX9_ways 118 = .ok (.aload_n 0, 1) := by decide +kernel
theorem dX9_ways_119 : decode cX9_ways 119 = .ok (.iload_n 1, 1) := by decide +kernel
theorem dX9_ways_120 : decode cX9_ways 120 = .ok (.iload_n 2, 1) := by decide +kernel
theorem dX9_ways_121 : decode cX9_ways 121 = .ok (.iconst 3, 1) := by decide +kernel
theorem dX9_ways_122 : decode cX9_ways 122 = .ok (.iload 5, 2) := by decide +kernel
theorem dX9_ways_124 : decode cX9_ways 124 = .ok (.imul, 1) := by decide +kernel
theorem dX9_ways_125 : decode cX9_ways 125 = .ok (.iadd, 1) := by decide +kernel
theorem dX9_ways_126 : decode cX9_ways 126 = .ok (.invokevirtual 208, 3) := by decide +kernel
theorem dX9_ways_129 : decode cX9_ways 129 = .ok (.aload_n 0, 1) := by decide +kernel
theorem dX9_ways_130 : decode cX9_ways 130 = .ok (.iload_n 1, 1) := by decide +kernel
theorem dX9_ways_131 : decode cX9_ways 131 = .ok (.iload_n 2, 1) := by decide +kernel
theorem dX9_ways_132 : decode cX9_ways 132 = .ok (.iconst 3, 1) := by decide +kernel
theorem dX9_ways_133 : decode cX9_ways 133 = .ok (.iload 5, 2) := by decide +kernel
theorem dX9_ways_135 : decode cX9_ways 135 = .ok (.imul, 1) := by decide +kernel
theorem dX9_ways_136 : decode cX9_ways 136 = .ok (.iadd, 1) := by decide +kernel
theorem dX9_ways_137 : decode cX9_ways 137 = .ok (.iconst 1, 1) := by decide +kernel
theorem dX9_ways_138 : decode cX9_ways 138 = .ok (.iadd, 1) := by decide +kernel
theorem dX9_ways_139 : decode cX9_ways 139 = .ok (.invokevirtual 208, 3) := by decide +kernel
theorem dX9_ways_142 : decode cX9_ways 142 = .ok (.aload_n 0, 1) := by decide +kernel
theorem dX9_ways_143 : decode cX9_ways 143 = .ok (.iload_n 1, 1) := by decide +kernel
theorem dX9_ways_144 : decode cX9_ways 144 = .ok (.iload_n 2, 1) := by decide +kernel
theorem dX9_ways_145 : decode cX9_ways 145 = .ok (.iconst 3, 1) := by decide +kernel
theorem dX9_ways_146 : decode cX9_ways 146 = .ok (.iload 5, 2) := by decide +kernel
theorem dX9_ways_148 : decode cX9_ways 148 = .ok (.imul, 1) := by decide +kernel
theorem dX9_ways_149 : decode cX9_ways 149 = .ok (.iadd, 1) := by decide +kernel
theorem dX9_ways_150 : decode cX9_ways 150 = .ok (.iconst 2, 1) := by decide +kernel
theorem dX9_ways_151 : decode cX9_ways 151 = .ok (.iadd, 1) := by decide +kernel
theorem dX9_ways_152 : decode cX9_ways 152 = .ok (.invokevirtual 208, 3) := by decide +kernel
theorem dX9_ways_155 : decode cX9_ways 155 = .ok (.invokevirtual 205, 3) := by decide +kernel
theorem dX9_ways_158 : decode cX9_ways 158 = .ok (.iinc 5 1, 3) := by decide +kernel
theorem dX9_ways_161 : decode cX9_ways 161 = .ok (.goto (-96), 3) := by decide +kernel
theorem dX9_ways_164 : decode cX9_ways 164 = .ok (.iload 5, 2) := by decide +kernel
theorem dX9_ways_166 : decode cX9_ways 166 = .ok (.ireturn, 1) := by decide +kernel
theorem dX9_shut_0 : decode cX9_shut 0 = .ok (.aload_n 0, 1) := by decide +kernel
theorem dX9_shut_1 : decode cX9_shut 1 = .ok (.iload_n 1, 1) := by decide +kernel
theorem dX9_shut_2 : decode cX9_shut 2 = .ok (.invokevirtual 211, 3) := by decide +kernel
theorem dX9_shut_5 : decode cX9_shut 5 = .ok (.ifCond .ne 9, 3) := by decide +kernel
theorem dX9_shut_8 : decode cX9_shut 8 = .ok (.aload_n 0, 1) := by decide +kernel
theorem dX9_shut_9 : decode cX9_shut 9 = .ok (.iconst (-1), 1) := by decide +kernel
theorem dX9_shut_10 : decode cX9_shut 10 = .ok (.invokevirtual 171, 3) := by decide +kernel
theorem dX9_shut_13 : decode cX9_shut 13 = .ok (.ireturn, 1) := by decide +kernel
theorem dX9_shut_14 : decode cX9_shut 14 = .ok (.iload_n 2, 1) := by decide +kernel
theorem dX9_shut_15 : decode cX9_shut 15 = .ok (.ifCond .eq 7, 3) := by decide +kernel
theorem dX9_shut_18 : decode cX9_shut 18 = .ok (.iconst 1, 1) := by decide +kernel
theorem dX9_shut_19 : decode cX9_shut 19 = .ok (.goto 4, 3) := by decide +kernel
theorem dX9_shut_22 : decode cX9_shut 22 = .ok (.iconst 0, 1) := by decide +kernel
theorem dX9_shut_23 : decode cX9_shut 23 = .ok (.istore_n 3, 1) := by decide +kernel
theorem dX9_shut_24 : decode cX9_shut 24 = .ok (.aload_n 0, 1) := by decide +kernel
theorem dX9_shut_25 : decode cX9_shut 25 = .ok (.getfield 31, 3) := by decide +kernel
theorem dX9_shut_28 : decode cX9_shut 28 = .ok (.iload_n 1, 1) := by decide +kernel
theorem dX9_shut_29 : decode cX9_shut 29 = .ok (.iaload, 1) := by decide +kernel
theorem dX9_shut_30 : decode cX9_shut 30 = .ok (.iload_n 3, 1) := by decide +kernel
theorem dX9_shut_31 : decode cX9_shut 31 = .ok (.if_icmp .ne 7, 3) := by decide +kernel
theorem dX9_shut_34 : decode cX9_shut 34 = .ok (.iconst 0, 1) := by decide +kernel
theorem dX9_shut_35 : decode cX9_shut 35 = .ok (.goto 4, 3) := by decide +kernel
theorem dX9_shut_38 : decode cX9_shut 38 = .ok (.iconst 1, 1) := by decide +kernel
theorem dX9_shut_39 : decode cX9_shut 39 = .ok (.istore 4, 2) := by decide +kernel
theorem dX9_shut_41 : decode cX9_shut 41 = .ok (.aload_n 0, 1) := by decide +kernel
theorem dX9_shut_42 : decode cX9_shut 42 = .ok (.getfield 31, 3) := by decide +kernel
theorem dX9_shut_45 : decode cX9_shut 45 = .ok (.iload_n 1, 1) := by decide +kernel
theorem dX9_shut_46 : decode cX9_shut 46 = .ok (.iload_n 3, 1) := by decide +kernel
theorem dX9_shut_47 : decode cX9_shut 47 = .ok (.iastore, 1) := by decide +kernel
theorem dX9_shut_48 : decode cX9_shut 48 = .ok (.iload 4, 2) := by decide +kernel
theorem dX9_shut_50 : decode cX9_shut 50 = .ok (.ireturn, 1) := by decide +kernel
theorem dX9_lag_0 : decode cX9_lag 0 = .ok (.iload_n 1, 1) := by decide +kernel
theorem dX9_lag_1 : decode cX9_lag 1 = .ok (.iconst 1, 1) := by decide +kernel
theorem dX9_lag_2 : decode cX9_lag 2 = .ok (.iconst 3, 1) := by decide +kernel
theorem dX9_lag_3 : decode cX9_lag 3 = .ok (.invokestatic 167, 3) := by decide +kernel
theorem dX9_lag_6 : decode cX9_lag 6 = .ok (.ifCond .ne 10, 3) := by decide +kernel
theorem dX9_lag_9 : decode cX9_lag 9 = .ok (.aload_n 0, 1) := by decide +kernel
theorem dX9_lag_10 : decode cX9_lag 10 = .ok (.bipush (-6), 2) := by decide +kernel
theorem dX9_lag_12 : decode cX9_lag 12 = .ok (.invokevirtual 171, 3) := by decide +kernel
theorem dX9_lag_15 : decode cX9_lag 15 = .ok (.ireturn, 1) := by decide +kernel
theorem dX9_lag_16 : decode cX9_lag 16 = .ok (.aload_n 0, 1) := by decide +kernel
theorem dX9_lag_17 : decode cX9_lag 17 = .ok (.getfield 34, 3) := by decide +kernel
theorem dX9_lag_20 : decode cX9_lag 20 = .ok (.istore_n 2, 1) := by decide +kernel
theorem dX9_lag_21 : decode cX9_lag 21 = .ok (.aload_n 0, 1) := by decide +kernel
theorem dX9_lag_22 : decode cX9_lag 22 = .ok (.iload_n 1, 1) := by decide +kernel
theorem dX9_lag_23 : decode cX9_lag 23 = .ok (.putfield 34, 3) := by decide +kernel
theorem dX9_lag_26 : decode cX9_lag 26 = .ok (.aload_n 0, 1) := by decide +kernel
theorem dX9_lag_27 : decode cX9_lag 27 = .ok (.iload_n 1, 1) := by decide +kernel
theorem dX9_lag_28 : decode cX9_lag 28 = .ok (.putfield 69, 3) := by decide +kernel
theorem dX9_lag_31 : decode cX9_lag 31 = .ok (.aload_n 0, 1) := by decide +kernel
theorem dX9_lag_32 : decode cX9_lag 32 = .ok (.getfield 56, 3) := by decide +kernel
theorem dX9_lag_35 : decode cX9_lag 35 = .ok (.iconst 0, 1) := by decide +kernel
theorem dX9_lag_36 : decode cX9_lag 36 = .ok (.iconst 0, 1) := by decide +kernel
theorem dX9_lag_37 : decode cX9_lag 37 = .ok (.iastore, 1) := by decide +kernel
theorem dX9_lag_38 : decode cX9_lag 38 = .ok (.iload_n 2, 1) := by decide +kernel
theorem dX9_lag_39 : decode cX9_lag 39 = .ok (.ireturn, 1) := by decide +kernel
theorem dX9_said_0 : decode cX9_said 0 = .ok (.aload_n 0, 1) := by decide +kernel
theorem dX9_said_1 : decode cX9_said 1 = .ok (.iload_n 1, 1) := by decide +kernel
theorem dX9_said_2 : decode cX9_said 2 = .ok (.invokevirtual 188, 3) := by decide +kernel
theorem dX9_said_5 : decode cX9_said 5 = .ok (.ifCond .ne 9, 3) := by decide +kernel
theorem dX9_said_8 : decode cX9_said 8 = .ok (.aload_n 0, 1) := by decide +kernel
theorem dX9_said_9 : decode cX9_said 9 = .ok (.iconst (-1), 1) := by decide +kernel
theorem dX9_said_10 : decode cX9_said 10 = .ok (.invokevirtual 171, 3) := by decide +kernel
theorem dX9_said_13 : decode cX9_said 13 = .ok (.ireturn, 1) := by decide +kernel
theorem dX9_said_14 : decode cX9_said 14 = .ok (.iload_n 2, 1) := by decide +kernel
theorem dX9_said_15 : decode cX9_said 15 = .ok (.invokestatic 195, 3) := by decide +kernel
theorem dX9_said_18 : decode cX9_said 18 = .ok (.ifCond .ne 10, 3) := by decide +kernel
theorem dX9_said_21 : decode cX9_said 21 = .ok (.aload_n 0, 1) := by decide +kernel
theorem dX9_said_22 : decode cX9_said 22 = .ok (.bipush (-6), 2) := by decide +kernel
theorem dX9_said_24 : decode cX9_said 24 = .ok (.invokevirtual 171, 3) := by decide +kernel
theorem dX9_said_27 : decode cX9_said 27 = .ok (.ireturn, 1) := by decide +kernel
theorem dX9_said_28 : decode cX9_said 28 = .ok (.aload_n 0, 1) := by decide +kernel
theorem dX9_said_29 : decode cX9_said 29 = .ok (.getfield 16, 3) := by decide +kernel
theorem dX9_said_32 : decode cX9_said 32 = .ok (.iload_n 1, 1) := by decide +kernel
theorem dX9_said_33 : decode cX9_said 33 = .ok (.iaload, 1) := by decide +kernel
theorem dX9_said_34 : decode cX9_said 34 = .ok (.istore_n 3, 1) := by decide +kernel
theorem dX9_said_35 : decode cX9_said 35 = .ok (.aload_n 0, 1) := by decide +kernel
theorem dX9_said_36 : decode cX9_said 36 = .ok (.getfield 16, 3) := by decide +kernel
theorem dX9_said_39 : decode cX9_said 39 = .ok (.iload_n 1, 1) := by decide +kernel
theorem dX9_said_40 : decode cX9_said 40 = .ok (.iload_n 2, 1) := by decide +kernel
theorem dX9_said_41 : decode cX9_said 41 = .ok (.iastore, 1) := by decide +kernel
theorem dX9_said_42 : decode cX9_said 42 = .ok (.iload_n 3, 1) := by decide +kernel
theorem dX9_said_43 : decode cX9_said 43 = .ok (.ireturn, 1) := by decide +kernel
theorem dX9_houseOf_0 : decode cX9_houseOf 0 = .ok (.aload_n 0, 1) := by decide +kernel
theorem dX9_houseOf_1 : decode cX9_houseOf 1 = .ok (.iload_n 1, 1) := by decide +kernel
theorem dX9_houseOf_2 : decode cX9_houseOf 2 = .ok (.invokevirtual 188, 3) := by decide +kernel
theorem dX9_houseOf_5 : decode cX9_houseOf 5 = .ok (.ifCond .eq 12, 3) := by decide +kernel
theorem dX9_houseOf_8 : decode cX9_houseOf 8 = .ok (.iload_n 2, 1) := by decide +kernel
theorem dX9_houseOf_9 : decode cX9_houseOf 9 = .ok (.iconst 0, 1) := by decide +kernel
theorem dX9_houseOf_10 : decode cX9_houseOf 10 = .ok (.iconst 4, 1) := by decide +kernel
theorem dX9_houseOf_11 : decode cX9_houseOf 11 = .ok (.invokestatic 167, 3) := by decide +kernel
theorem dX9_houseOf_14 : decode cX9_houseOf 14 = .ok (.ifCond .ne 10, 3) := by decide +kernel
theorem dX9_houseOf_17 : decode cX9_houseOf 17 = .ok (.aload_n 0, 1) := by decide +kernel
theorem dX9_houseOf_18 : decode cX9_houseOf 18 = .ok (.bipush (-5), 2) := by decide +kernel
theorem dX9_houseOf_20 : decode cX9_houseOf 20 = .ok (.invokevirtual 171, 3) := by decide +kernel
theorem dX9_houseOf_23 : decode cX9_houseOf 23 = .ok (.ireturn, 1) := by decide +kernel
theorem dX9_houseOf_24 : decode cX9_houseOf 24 = .ok (.iload_n 2, 1) := by decide +kernel
theorem dX9_houseOf_25 : decode cX9_houseOf 25 = .ok (.tableswitch 59 0 3 #[31, 38, 45, 52], 31) := by decide +kernel
theorem dX9_houseOf_56 : decode cX9_houseOf 56 = .ok (.aload_n 0, 1) := by decide +kernel
theorem dX9_houseOf_57 : decode cX9_houseOf 57 = .ok (.getfield 13, 3) := by decide +kernel
theorem dX9_houseOf_60 : decode cX9_houseOf 60 = .ok (.iload_n 1, 1) := by decide +kernel
theorem dX9_houseOf_61 : decode cX9_houseOf 61 = .ok (.iaload, 1) := by decide +kernel
theorem dX9_houseOf_62 : decode cX9_houseOf 62 = .ok (.ireturn, 1) := by decide +kernel
theorem dX9_houseOf_63 : decode cX9_houseOf 63 = .ok (.aload_n 0, 1) := by decide +kernel
theorem dX9_houseOf_64 : decode cX9_houseOf 64 = .ok (.getfield 16, 3) := by decide +kernel
theorem dX9_houseOf_67 : decode cX9_houseOf 67 = .ok (.iload_n 1, 1) := by decide +kernel
theorem dX9_houseOf_68 : decode cX9_houseOf 68 = .ok (.iaload, 1) := by decide +kernel
theorem dX9_houseOf_69 : decode cX9_houseOf 69 = .ok (.ireturn, 1) := by decide +kernel
theorem dX9_houseOf_70 : decode cX9_houseOf 70 = .ok (.aload_n 0, 1) := by decide +kernel
theorem dX9_houseOf_71 : decode cX9_houseOf 71 = .ok (.getfield 19, 3) := by decide +kernel
theorem dX9_houseOf_74 : decode cX9_houseOf 74 = .ok (.iload_n 1, 1) := by decide +kernel
theorem dX9_houseOf_75 : decode cX9_houseOf 75 = .ok (.iaload, 1) := by decide +kernel
theorem dX9_houseOf_76 : decode cX9_houseOf 76 = .ok (.ireturn, 1) := by decide +kernel
theorem dX9_houseOf_77 : decode cX9_houseOf 77 = .ok (.aload_n 0, 1) := by decide +kernel
theorem dX9_houseOf_78 : decode cX9_houseOf 78 = .ok (.getfield 44, 3) := by decide +kernel
theorem dX9_houseOf_81 : decode cX9_houseOf 81 = .ok (.iload_n 1, 1) := by decide +kernel
theorem dX9_houseOf_82 : decode cX9_houseOf 82 = .ok (.iaload, 1) := by decide +kernel
theorem dX9_houseOf_83 : decode cX9_houseOf 83 = .ok (.ireturn, 1) := by decide +kernel
theorem dX9_houseOf_84 : decode cX9_houseOf 84 = .ok (.aload_n 0, 1) := by decide +kernel
theorem dX9_houseOf_85 : decode cX9_houseOf 85 = .ok (.getfield 47, 3) := by decide +kernel
theorem dX9_houseOf_88 : decode cX9_houseOf 88 = .ok (.iload_n 1, 1) := by decide +kernel
theorem dX9_houseOf_89 : decode cX9_houseOf 89 = .ok (.iaload, 1) := by decide +kernel
theorem dX9_houseOf_90 : decode cX9_houseOf 90 = .ok (.ireturn, 1) := by decide +kernel
theorem dX9_wayOf_0 : decode cX9_wayOf 0 = .ok (.aload_n 0, 1) := by decide +kernel
theorem dX9_wayOf_1 : decode cX9_wayOf 1 = .ok (.iload_n 1, 1) := by decide +kernel
theorem dX9_wayOf_2 : decode cX9_wayOf 2 = .ok (.invokevirtual 211, 3) := by decide +kernel
theorem dX9_wayOf_5 : decode cX9_wayOf 5 = .ok (.ifCond .eq 12, 3) := by decide +kernel
theorem dX9_wayOf_8 : decode cX9_wayOf 8 = .ok (.iload_n 2, 1) := by decide +kernel
theorem dX9_wayOf_9 : decode cX9_wayOf 9 = .ok (.iconst 0, 1) := by decide +kernel
theorem dX9_wayOf_10 : decode cX9_wayOf 10 = .ok (.iconst 3, 1) := by decide +kernel
theorem dX9_wayOf_11 : decode cX9_wayOf 11 = .ok (.invokestatic 167, 3) := by decide +kernel
theorem dX9_wayOf_14 : decode cX9_wayOf 14 = .ok (.ifCond .ne 10, 3) := by decide +kernel
theorem dX9_wayOf_17 : decode cX9_wayOf 17 = .ok (.aload_n 0, 1) := by decide +kernel
theorem dX9_wayOf_18 : decode cX9_wayOf 18 = .ok (.bipush (-5), 2) := by decide +kernel
theorem dX9_wayOf_20 : decode cX9_wayOf 20 = .ok (.invokevirtual 171, 3) := by decide +kernel
theorem dX9_wayOf_23 : decode cX9_wayOf 23 = .ok (.ireturn, 1) := by decide +kernel
theorem dX9_wayOf_24 : decode cX9_wayOf 24 = .ok (.iload_n 2, 1) := by decide +kernel
theorem dX9_wayOf_25 : decode cX9_wayOf 25 = .ok (.ifCond .ne 12, 3) := by decide +kernel
theorem dX9_wayOf_28 : decode cX9_wayOf 28 = .ok (.aload_n 0, 1) := by decide +kernel
theorem dX9_wayOf_29 : decode cX9_wayOf 29 = .ok (.getfield 22, 3) := by decide +kernel
theorem dX9_wayOf_32 : decode cX9_wayOf 32 = .ok (.iload_n 1, 1) := by decide +kernel
theorem dX9_wayOf_33 : decode cX9_wayOf 33 = .ok (.iaload, 1) := by decide +kernel
theorem dX9_wayOf_34 : decode cX9_wayOf 34 = .ok (.goto 37, 3) := by decide +kernel
theorem dX9_wayOf_37 : decode cX9_wayOf 37 = .ok (.iload_n 2, 1) := by decide +kernel
theorem dX9_wayOf_38 : decode cX9_wayOf 38 = .ok (.iconst 1, 1) := by decide +kernel
theorem dX9_wayOf_39 : decode cX9_wayOf 39 = .ok (.if_icmp .ne 12, 3) := by decide +kernel
theorem dX9_wayOf_42 : decode cX9_wayOf 42 = .ok (.aload_n 0, 1) := by decide +kernel
theorem dX9_wayOf_43 : decode cX9_wayOf 43 = .ok (.getfield 25, 3) := by decide +kernel
theorem dX9_wayOf_46 : decode cX9_wayOf 46 = .ok (.iload_n 1, 1) := by decide +kernel
theorem dX9_wayOf_47 : decode cX9_wayOf 47 = .ok (.iaload, 1) := by decide +kernel
theorem dX9_wayOf_48 : decode cX9_wayOf 48 = .ok (.goto 23, 3) := by decide +kernel
theorem dX9_wayOf_51 : decode cX9_wayOf 51 = .ok (.iload_n 2, 1) := by decide +kernel
theorem dX9_wayOf_52 : decode cX9_wayOf 52 = .ok (.iconst 2, 1) := by decide +kernel
theorem dX9_wayOf_53 : decode cX9_wayOf 53 = .ok (.if_icmp .ne 12, 3) := by decide +kernel
theorem dX9_wayOf_56 : decode cX9_wayOf 56 = .ok (.aload_n 0, 1) := by decide +kernel
theorem dX9_wayOf_57 : decode cX9_wayOf 57 = .ok (.getfield 28, 3) := by decide +kernel
theorem dX9_wayOf_60 : decode cX9_wayOf 60 = .ok (.iload_n 1, 1) := by decide +kernel
theorem dX9_wayOf_61 : decode cX9_wayOf 61 = .ok (.iaload, 1) := by decide +kernel
theorem dX9_wayOf_62 : decode cX9_wayOf 62 = .ok (.goto 9, 3) := by decide +kernel
theorem dX9_wayOf_65 : decode cX9_wayOf 65 = .ok (.aload_n 0, 1) := by decide +kernel
theorem dX9_wayOf_66 : decode cX9_wayOf 66 = .ok (.getfield 31, 3) := by decide +kernel
theorem dX9_wayOf_69 : decode cX9_wayOf 69 = .ok (.iload_n 1, 1) := by decide +kernel
theorem dX9_wayOf_70 : decode cX9_wayOf 70 = .ok (.iaload, 1) := by decide +kernel
theorem dX9_wayOf_71 : decode cX9_wayOf 71 = .ok (.ireturn, 1) := by decide +kernel
theorem dX9_letter_0 : decode cX9_letter 0 = .ok (.aload_n 0, 1) := by decide +kernel
theorem dX9_letter_1 : decode cX9_letter 1 = .ok (.getfield 214, 3) := by decide +kernel
theorem dX9_letter_4 : decode cX9_letter 4 = .ok (.aload_n 0, 1) := by decide +kernel
theorem dX9_letter_5 : decode cX9_letter 5 = .ok (.getfield 78, 3) := by decide +kernel
theorem dX9_letter_8 : decode cX9_letter 8 = .ok (.aload_n 0, 1) := by decide +kernel
theorem dX9_letter_9 : decode cX9_letter 9 = .ok (.getfield 217, 3) := by decide +kernel
theorem dX9_letter_12 : decode cX9_letter 12 = .ok (.iaload, 1) := by decide +kernel
theorem dX9_letter_13 : decode cX9_letter 13 = .ok (.if_icmp .ge 18, 3) := by decide +kernel
theorem dX9_letter_16 : decode cX9_letter 16 = .ok (.aload_n 0, 1) := by decide +kernel
theorem dX9_letter_17 : decode cX9_letter 17 = .ok (.aload_n 0, 1) := by decide +kernel
theorem dX9_letter_18 : decode cX9_letter 18 = .ok (.getfield 217, 3) := by decide +kernel
theorem dX9_letter_21 : decode cX9_letter 21 = .ok (.aload_n 0, 1) := by decide +kernel
theorem dX9_letter_22 : decode cX9_letter 22 = .ok (.getfield 214, 3) := by decide +kernel
theorem dX9_letter_25 : decode cX9_letter 25 = .ok (.invokevirtual 208, 3) := by decide +kernel
theorem dX9_letter_28 : decode cX9_letter 28 = .ok (.goto 4, 3) := by decide +kernel
theorem dX9_letter_31 : decode cX9_letter 31 = .ok (.iconst (-1), 1) := by decide +kernel
theorem dX9_letter_32 : decode cX9_letter 32 = .ok (.ireturn, 1) := by decide +kernel
theorem dX9_takes_0 : decode cX9_takes 0 = .ok (.aload_n 0, 1) := by decide +kernel
theorem dX9_takes_1 : decode cX9_takes 1 = .ok (.invokevirtual 220, 3) := by decide +kernel
theorem dX9_takes_4 : decode cX9_takes 4 = .ok (.iload_n 1, 1) := by decide +kernel
theorem dX9_takes_5 : decode cX9_takes 5 = .ok (.if_icmp .eq 5, 3) := by decide +kernel
theorem dX9_takes_8 : decode cX9_takes 8 = .ok (.iconst 0, 1) := by decide +kernel
theorem dX9_takes_9 : decode cX9_takes 9 = .ok (.ireturn, 1) := by decide +kernel
theorem dX9_takes_10 : decode cX9_takes 10 = .ok (.aload_n 0, 1) := by decide +kernel
theorem dX9_takes_11 : decode cX9_takes 11 = .ok (.dup, 1) := by decide +kernel
theorem dX9_takes_12 : decode cX9_takes 12 = .ok (.getfield 214, 3) := by decide +kernel
theorem dX9_takes_15 : decode cX9_takes 15 = .ok (.iconst 1, 1) := by decide +kernel
theorem dX9_takes_16 : decode cX9_takes 16 = .ok (.iadd, 1) := by decide +kernel
theorem dX9_takes_17 : decode cX9_takes 17 = .ok (.putfield 214, 3) := by decide +kernel
theorem dX9_takes_20 : decode cX9_takes 20 = .ok (.iconst 1, 1) := by decide +kernel
theorem dX9_takes_21 : decode cX9_takes 21 = .ok (.ireturn, 1) := by decide +kernel
theorem dX9_takesWord_0 : decode cX9_takesWord 0 = .ok (.iconst 0, 1) := by decide +kernel
theorem dX9_takesWord_1 : decode cX9_takesWord 1 = .ok (.istore_n 2, 1) := by decide +kernel
theorem dX9_takesWord_2 : decode cX9_takesWord 2 = .ok (.iload_n 2, 1) := by decide +kernel
theorem dX9_takesWord_3 : decode cX9_takesWord 3 = .ok (.aload_n 1, 1) := by decide +kernel
theorem dX9_takesWord_4 : decode cX9_takesWord 4 = .ok (.arraylength, 1) := by decide +kernel
theorem dX9_takesWord_5 : decode cX9_takesWord 5 = .ok (.if_icmp .ge 21, 3) := by decide +kernel
theorem dX9_takesWord_8 : decode cX9_takesWord 8 = .ok (.aload_n 0, 1) := by decide +kernel
theorem dX9_takesWord_9 : decode cX9_takesWord 9 = .ok (.aload_n 1, 1) := by decide +kernel
theorem dX9_takesWord_10 : decode cX9_takesWord 10 = .ok (.iload_n 2, 1) := by decide +kernel
theorem dX9_takesWord_11 : decode cX9_takesWord 11 = .ok (.iaload, 1) := by decide +kernel
theorem dX9_takesWord_12 : decode cX9_takesWord 12 = .ok (.invokevirtual 224, 3) := by decide +kernel
theorem dX9_takesWord_15 : decode cX9_takesWord 15 = .ok (.ifCond .ne 5, 3) := by decide +kernel
theorem dX9_takesWord_18 : decode cX9_takesWord 18 = .ok (.iconst 0, 1) := by decide +kernel
theorem dX9_takesWord_19 : decode cX9_takesWord 19 = .ok (.ireturn, 1) := by decide +kernel
theorem dX9_takesWord_20 : decode cX9_takesWord 20 = .ok (.iinc 2 1, 3) := by decide +kernel
theorem dX9_takesWord_23 : decode cX9_takesWord 23 = .ok (.goto (-21), 3) := by decide +kernel
theorem dX9_takesWord_26 : decode cX9_takesWord 26 = .ok (.iconst 1, 1) := by decide +kernel
theorem dX9_takesWord_27 : decode cX9_takesWord 27 = .ok (.ireturn, 1) := by decide +kernel
theorem dX9_takesNumber_0 : decode cX9_takesNumber 0 = .ok (.aload_n 0, 1) := by decide +kernel
theorem dX9_takesNumber_1 : decode cX9_takesNumber 1 = .ok (.bipush 32, 2) := by decide +kernel
theorem dX9_takesNumber_3 : decode cX9_takesNumber 3 = .ok (.invokevirtual 224, 3) := by decide +kernel
theorem dX9_takesNumber_6 : decode cX9_takesNumber 6 = .ok (.ifCond .ne 5, 3) := by decide +kernel
theorem dX9_takesNumber_9 : decode cX9_takesNumber 9 = .ok (.iconst 0, 1) := by decide +kernel
theorem dX9_takesNumber_10 : decode cX9_takesNumber 10 = .ok (.ireturn, 1) := by decide +kernel
theorem dX9_takesNumber_11 : decode cX9_takesNumber 11 = .ok (.aload_n 0, 1) := by decide +kernel
theorem dX9_takesNumber_12 : decode cX9_takesNumber 12 = .ok (.aload_n 0, 1) := by decide +kernel
theorem dX9_takesNumber_13 : decode cX9_takesNumber 13 = .ok (.getfield 214, 3) := by decide +kernel
theorem dX9_takesNumber_16 : decode cX9_takesNumber 16 = .ok (.putfield 227, 3) := by decide +kernel
theorem dX9_takesNumber_19 : decode cX9_takesNumber 19 = .ok (.aload_n 0, 1) := by decide +kernel
theorem dX9_takesNumber_20 : decode cX9_takesNumber 20 = .ok (.iconst 0, 1) := by decide +kernel
theorem dX9_takesNumber_21 : decode cX9_takesNumber 21 = .ok (.putfield 230, 3) := by decide +kernel
theorem dX9_takesNumber_24 : decode cX9_takesNumber 24 = .ok (.iconst 0, 1) := by decide +kernel
theorem dX9_takesNumber_25 : decode cX9_takesNumber 25 = .ok (.istore_n 3, 1) := by decide +kernel
theorem dX9_takesNumber_26 : decode cX9_takesNumber 26 = .ok (.iload_n 3, 1) := by decide +kernel
theorem dX9_takesNumber_27 : decode cX9_takesNumber 27 = .ok (.iconst 3, 1) := by decide +kernel
theorem dX9_takesNumber_28 : decode cX9_takesNumber 28 = .ok (.if_icmp .ge 52, 3) := by decide +kernel
theorem dX9_takesNumber_31 : decode cX9_takesNumber 31 = .ok (.aload_n 0, 1) := by decide +kernel
theorem dX9_takesNumber_32 : decode cX9_takesNumber 32 = .ok (.invokevirtual 220, 3) := by decide +kernel
theorem dX9_takesNumber_35 : decode cX9_takesNumber 35 = .ok (.bipush 48, 2) := by decide +kernel
theorem dX9_takesNumber_37 : decode cX9_takesNumber 37 = .ok (.bipush 57, 2) := by decide +kernel
theorem dX9_takesNumber_39 : decode cX9_takesNumber 39 = .ok (.invokestatic 167, 3) := by decide +kernel
theorem dX9_takesNumber_42 : decode cX9_takesNumber 42 = .ok (.ifCond .eq 38, 3) := by decide +kernel
theorem dX9_takesNumber_45 : decode cX9_takesNumber 45 = .ok (.aload_n 0, 1) := by decide +kernel
theorem dX9_takesNumber_46 : decode cX9_takesNumber 46 = .ok (.bipush 10, 2) := by decide +kernel
theorem dX9_takesNumber_48 : decode cX9_takesNumber 48 = .ok (.aload_n 0, 1) := by decide +kernel
theorem dX9_takesNumber_49 : decode cX9_takesNumber 49 = .ok (.getfield 230, 3) := by decide +kernel
theorem dX9_takesNumber_52 : decode cX9_takesNumber 52 = .ok (.imul, 1) := by decide +kernel
theorem dX9_takesNumber_53 : decode cX9_takesNumber 53 = .ok (.aload_n 0, 1) := by decide +kernel
theorem dX9_takesNumber_54 : decode cX9_takesNumber 54 = .ok (.invokevirtual 220, 3) := by decide +kernel
theorem dX9_takesNumber_57 : decode cX9_takesNumber 57 = .ok (.iadd, 1) := by decide +kernel
theorem dX9_takesNumber_58 : decode cX9_takesNumber 58 = .ok (.bipush 48, 2) := by decide +kernel
theorem dX9_takesNumber_60 : decode cX9_takesNumber 60 = .ok (.isub, 1) := by decide +kernel
theorem dX9_takesNumber_61 : decode cX9_takesNumber 61 = .ok (.putfield 230, 3) := by decide +kernel
theorem dX9_takesNumber_64 : decode cX9_takesNumber 64 = .ok (.aload_n 0, 1) := by decide +kernel
theorem dX9_takesNumber_65 : decode cX9_takesNumber 65 = .ok (.dup, 1) := by decide +kernel
theorem dX9_takesNumber_66 : decode cX9_takesNumber 66 = .ok (.getfield 214, 3) := by decide +kernel
theorem dX9_takesNumber_69 : decode cX9_takesNumber 69 = .ok (.iconst 1, 1) := by decide +kernel
theorem dX9_takesNumber_70 : decode cX9_takesNumber 70 = .ok (.iadd, 1) := by decide +kernel
theorem dX9_takesNumber_71 : decode cX9_takesNumber 71 = .ok (.putfield 214, 3) := by decide +kernel
theorem dX9_takesNumber_74 : decode cX9_takesNumber 74 = .ok (.iinc 3 1, 3) := by decide +kernel
theorem dX9_takesNumber_77 : decode cX9_takesNumber 77 = .ok (.goto (-51), 3) := by decide +kernel
theorem dX9_takesNumber_80 : decode cX9_takesNumber 80 = .ok (.iload_n 3, 1) := by decide +kernel
theorem dX9_takesNumber_81 : decode cX9_takesNumber 81 = .ok (.ifCond .ne 5, 3) := by decide +kernel
theorem dX9_takesNumber_84 : decode cX9_takesNumber 84 = .ok (.iconst 0, 1) := by decide +kernel
theorem dX9_takesNumber_85 : decode cX9_takesNumber 85 = .ok (.ireturn, 1) := by decide +kernel
theorem dX9_takesNumber_86 : decode cX9_takesNumber 86 = .ok (.aload_n 0, 1) := by decide +kernel
theorem dX9_takesNumber_87 : decode cX9_takesNumber 87 = .ok (.getfield 230, 3) := by decide +kernel
theorem dX9_takesNumber_90 : decode cX9_takesNumber 90 = .ok (.iload_n 1, 1) := by decide +kernel
theorem dX9_takesNumber_91 : decode cX9_takesNumber 91 = .ok (.iload_n 2, 1) := by decide +kernel
theorem dX9_takesNumber_92 : decode cX9_takesNumber 92 = .ok (.invokestatic 167, 3) := by decide +kernel
theorem dX9_takesNumber_95 : decode cX9_takesNumber 95 = .ok (.ifCond .eq 5, 3) := by decide +kernel
theorem dX9_takesNumber_98 : decode cX9_takesNumber 98 = .ok (.iconst 1, 1) := by decide +kernel
theorem dX9_takesNumber_99 : decode cX9_takesNumber 99 = .ok (.ireturn, 1) := by decide +kernel
theorem dX9_takesNumber_100 : decode cX9_takesNumber 100 = .ok (.aload_n 0, 1) := by decide +kernel
theorem dX9_takesNumber_101 : decode cX9_takesNumber 101 = .ok (.aload_n 0, 1) := by decide +kernel
theorem dX9_takesNumber_102 : decode cX9_takesNumber 102 = .ok (.getfield 227, 3) := by decide +kernel
theorem dX9_takesNumber_105 : decode cX9_takesNumber 105 = .ok (.putfield 214, 3) := by decide +kernel
theorem dX9_takesNumber_108 : decode cX9_takesNumber 108 = .ok (.iconst 0, 1) := by decide +kernel
theorem dX9_takesNumber_109 : decode cX9_takesNumber 109 = .ok (.ireturn, 1) := by decide +kernel
theorem dX9_takesHouse_0 : decode cX9_takesHouse 0 = .ok (.aload_n 0, 1) := by decide +kernel
theorem dX9_takesHouse_1 : decode cX9_takesHouse 1 = .ok (.getfield 214, 3) := by decide +kernel
theorem dX9_takesHouse_4 : decode cX9_takesHouse 4 = .ok (.istore_n 1, 1) := by decide +kernel
theorem dX9_takesHouse_5 : decode cX9_takesHouse 5 = .ok (.aload_n 0, 1) := by decide +kernel
theorem dX9_takesHouse_6 : decode cX9_takesHouse 6 = .ok (.getfield 102, 3) := by decide +kernel
theorem dX9_takesHouse_9 : decode cX9_takesHouse 9 = .ok (.bipush 8, 2) := by decide +kernel
theorem dX9_takesHouse_11 : decode cX9_takesHouse 11 = .ok (.if_icmp .ne 5, 3) := by decide +kernel
theorem dX9_takesHouse_14 : decode cX9_takesHouse 14 = .ok (.iconst 0, 1) := by decide +kernel
theorem dX9_takesHouse_15 : decode cX9_takesHouse 15 = .ok (.ireturn, 1) := by decide +kernel
theorem dX9_takesHouse_16 : decode cX9_takesHouse 16 = .ok (.aload_n 0, 1) := by decide +kernel
theorem dX9_takesHouse_17 : decode cX9_takesHouse 17 = .ok (.getstatic 233, 3) := by decide +kernel
theorem dX9_takesHouse_20 : decode cX9_takesHouse 20 = .ok (.invokevirtual 236, 3) := by decide +kernel
theorem dX9_takesHouse_23 : decode cX9_takesHouse 23 = .ok (.ifCond .eq 13, 3) := by decide +kernel
theorem dX9_takesHouse_26 : decode cX9_takesHouse 26 = .ok (.aload_n 0, 1) := by decide +kernel
theorem dX9_takesHouse_27 : decode cX9_takesHouse 27 = .ok (.iconst 0, 1) := by decide +kernel
theorem dX9_takesHouse_28 : decode cX9_takesHouse 28 = .ok (.bipush 6, 2) := by decide +kernel
theorem dX9_takesHouse_30 : decode cX9_takesHouse 30 = .ok (.invokevirtual 240, 3) := by decide +kernel
theorem dX9_takesHouse_33 : decode cX9_takesHouse 33 = .ok (.ifCond .ne 5, 3) := by decide +kernel
theorem dX9_takesHouse_36 : decode cX9_takesHouse 36 = .ok (.iconst 0, 1) := by decide +kernel
theorem dX9_takesHouse_37 : decode cX9_takesHouse 37 = .ok (.ireturn, 1) := by decide +kernel
theorem dX9_takesHouse_38 : decode cX9_takesHouse 38 = .ok (.aload_n 0, 1) := by decide +kernel
theorem dX9_takesHouse_39 : decode cX9_takesHouse 39 = .ok (.getfield 230, 3) := by decide +kernel
theorem dX9_takesHouse_42 : decode cX9_takesHouse 42 = .ok (.istore_n 2, 1) := by decide +kernel
theorem dX9_takesHouse_43 : decode cX9_takesHouse 43 = .ok (.aload_n 0, 1) := by decide +kernel
theorem dX9_takesHouse_44 : decode cX9_takesHouse 44 = .ok (.iconst 0, 1) := by decide +kernel
theorem dX9_takesHouse_45 : decode cX9_takesHouse 45 = .ok (.sipush 255, 3) := by decide +kernel
theorem dX9_takesHouse_48 : decode cX9_takesHouse 48 = .ok (.invokevirtual 240, 3) := by decide +kernel
theorem dX9_takesHouse_51 : decode cX9_takesHouse 51 = .ok (.ifCond .ne 5, 3) := by decide +kernel
theorem dX9_takesHouse_54 : decode cX9_takesHouse 54 = .ok (.iconst 0, 1) := by decide +kernel
theorem dX9_takesHouse_55 : decode cX9_takesHouse 55 = .ok (.ireturn, 1) := by decide +kernel
theorem dX9_takesHouse_56 : decode cX9_takesHouse 56 = .ok (.aload_n 0, 1) := by decide +kernel
theorem dX9_takesHouse_57 : decode cX9_takesHouse 57 = .ok (.getfield 230, 3) := by decide +kernel
theorem dX9_takesHouse_60 : decode cX9_takesHouse 60 = .ok (.istore_n 3, 1) := by decide +kernel
theorem dX9_takesHouse_61 : decode cX9_takesHouse 61 = .ok (.aload_n 0, 1) := by decide +kernel
theorem dX9_takesHouse_62 : decode cX9_takesHouse 62 = .ok (.iconst 0, 1) := by decide +kernel
theorem dX9_takesHouse_63 : decode cX9_takesHouse 63 = .ok (.sipush 255, 3) := by decide +kernel
theorem dX9_takesHouse_66 : decode cX9_takesHouse 66 = .ok (.invokevirtual 240, 3) := by decide +kernel
theorem dX9_takesHouse_69 : decode cX9_takesHouse 69 = .ok (.ifCond .ne 5, 3) := by decide +kernel
theorem dX9_takesHouse_72 : decode cX9_takesHouse 72 = .ok (.iconst 0, 1) := by decide +kernel
theorem dX9_takesHouse_73 : decode cX9_takesHouse 73 = .ok (.ireturn, 1) := by decide +kernel
theorem dX9_takesHouse_74 : decode cX9_takesHouse 74 = .ok (.aload_n 0, 1) := by decide +kernel
theorem dX9_takesHouse_75 : decode cX9_takesHouse 75 = .ok (.iload_n 2, 1) := by decide +kernel
theorem dX9_takesHouse_76 : decode cX9_takesHouse 76 = .ok (.iload_n 3, 1) := by decide +kernel
theorem dX9_takesHouse_77 : decode cX9_takesHouse 77 = .ok (.aload_n 0, 1) := by decide +kernel
theorem dX9_takesHouse_78 : decode cX9_takesHouse 78 = .ok (.getfield 230, 3) := by decide +kernel
theorem dX9_takesHouse_81 : decode cX9_takesHouse 81 = .ok (.invokevirtual 198, 3) := by decide +kernel
theorem dX9_takesHouse_84 : decode cX9_takesHouse 84 = .ok (.aload_n 0, 1) := by decide +kernel
theorem dX9_takesHouse_85 : decode cX9_takesHouse 85 = .ok (.getfield 214, 3) := by decide +kernel
theorem dX9_takesHouse_88 : decode cX9_takesHouse 88 = .ok (.iload_n 1, 1) := by decide +kernel
theorem dX9_takesHouse_89 : decode cX9_takesHouse 89 = .ok (.if_icmp .le 7, 3) := by decide +kernel
theorem dX9_takesHouse_92 : decode cX9_takesHouse 92 = .ok (.iconst 1, 1) := by decide +kernel
theorem dX9_takesHouse_93 : decode cX9_takesHouse 93 = .ok (.goto 4, 3) := by decide +kernel
theorem dX9_takesHouse_96 : decode cX9_takesHouse 96 = .ok (.iconst 0, 1) := by decide +kernel
theorem dX9_takesHouse_97 : decode cX9_takesHouse 97 = .ok (.ireturn, 1) := by decide +kernel
theorem dX9_takesWay_0 : decode cX9_takesWay 0 = .ok (.aload_n 0, 1) := by decide +kernel
theorem dX9_takesWay_1 : decode cX9_takesWay 1 = .ok (.getfield 105, 3) := by decide +kernel
theorem dX9_takesWay_4 : decode cX9_takesWay 4 = .ok (.bipush 12, 2) := by decide +kernel
theorem dX9_takesWay_6 : decode cX9_takesWay 6 = .ok (.if_icmp .ne 5, 3) := by decide +kernel
theorem dX9_takesWay_9 : decode cX9_takesWay 9 = .ok (.iconst 0, 1) := by decide +kernel
theorem dX9_takesWay_10 : decode cX9_takesWay 10 = .ok (.ireturn, 1) := by decide +kernel
theorem dX9_takesWay_11 : decode cX9_takesWay 11 = .ok (.aload_n 0, 1) := by decide +kernel
theorem dX9_takesWay_12 : decode cX9_takesWay 12 = .ok (.getstatic 243, 3) := by decide +kernel
theorem dX9_takesWay_15 : decode cX9_takesWay 15 = .ok (.invokevirtual 236, 3) := by decide +kernel
theorem dX9_takesWay_18 : decode cX9_takesWay 18 = .ok (.ifCond .eq 17, 3) := by decide +kernel
theorem dX9_takesWay_21 : decode cX9_takesWay 21 = .ok (.aload_n 0, 1) := by decide +kernel
theorem dX9_takesWay_22 : decode cX9_takesWay 22 = .ok (.iconst 0, 1) := by decide +kernel
theorem dX9_takesWay_23 : decode cX9_takesWay 23 = .ok (.aload_n 0, 1) := by decide +kernel
theorem dX9_takesWay_24 : decode cX9_takesWay 24 = .ok (.getfield 102, 3) := by decide +kernel
theorem dX9_takesWay_27 : decode cX9_takesWay 27 = .ok (.iconst 1, 1) := by decide +kernel
theorem dX9_takesWay_28 : decode cX9_takesWay 28 = .ok (.isub, 1) := by decide +kernel
theorem dX9_takesWay_29 : decode cX9_takesWay 29 = .ok (.invokevirtual 240, 3) := by decide +kernel
theorem dX9_takesWay_32 : decode cX9_takesWay 32 = .ok (.ifCond .ne 5, 3) := by decide +kernel
theorem dX9_takesWay_35 : decode cX9_takesWay 35 = .ok (.iconst 0, 1) := by decide +kernel
theorem dX9_takesWay_36 : decode cX9_takesWay 36 = .ok (.ireturn, 1) := by decide +kernel
theorem dX9_takesWay_37 : decode cX9_takesWay 37 = .ok (.aload_n 0, 1) := by decide +kernel
theorem dX9_takesWay_38 : decode cX9_takesWay 38 = .ok (.getfield 230, 3) := by decide +kernel
theorem dX9_takesWay_41 : decode cX9_takesWay 41 = .ok (.istore_n 1, 1) := by decide +kernel
theorem dX9_takesWay_42 : decode cX9_takesWay 42 = .ok (.aload_n 0, 1) := by decide +kernel
theorem dX9_takesWay_43 : decode cX9_takesWay 43 = .ok (.iconst 0, 1) := by decide +kernel
theorem dX9_takesWay_44 : decode cX9_takesWay 44 = .ok (.aload_n 0, 1) := by decide +kernel
theorem dX9_takesWay_45 : decode cX9_takesWay 45 = .ok (.getfield 102, 3) := by decide +kernel
theorem dX9_takesWay_48 : decode cX9_takesWay 48 = .ok (.iconst 1, 1) := by decide +kernel
theorem dX9_takesWay_49 : decode cX9_takesWay 49 = .ok (.isub, 1) := by decide +kernel
theorem dX9_takesWay_50 : decode cX9_takesWay 50 = .ok (.invokevirtual 240, 3) := by decide +kernel
theorem dX9_takesWay_53 : decode cX9_takesWay 53 = .ok (.ifCond .ne 5, 3) := by decide +kernel
theorem dX9_takesWay_56 : decode cX9_takesWay 56 = .ok (.iconst 0, 1) := by decide +kernel
theorem dX9_takesWay_57 : decode cX9_takesWay 57 = .ok (.ireturn, 1) := by decide +kernel
theorem dX9_takesWay_58 : decode cX9_takesWay 58 = .ok (.aload_n 0, 1) := by decide +kernel
theorem dX9_takesWay_59 : decode cX9_takesWay 59 = .ok (.getfield 230, 3) := by decide +kernel
theorem dX9_takesWay_62 : decode cX9_takesWay 62 = .ok (.istore_n 2, 1) := by decide +kernel
theorem dX9_takesWay_63 : decode cX9_takesWay 63 = .ok (.iload_n 1, 1) := by decide +kernel
theorem dX9_takesWay_64 : decode cX9_takesWay 64 = .ok (.iload_n 2, 1) := by decide +kernel
