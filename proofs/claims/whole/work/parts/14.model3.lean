def w_Md_move : List Cond := Cond.code y_Md_move prog_9_method_14_code 10 none :: TB
def rm_Md_move : Room := { frames := 2, cells := 0, slots := 0, locals := 43 }
theorem d_Md_move_0 : decode prog_9_method_14_code 0 = .ok (.aload_n 0, 1) := by decide +kernel
theorem d_Md_move_1 : decode prog_9_method_14_code 1 = .ok (.aload_n 0, 1) := by decide +kernel
theorem d_Md_move_2 : decode prog_9_method_14_code 2 = .ok (.getfield 79, 3) := by decide +kernel
theorem d_Md_move_5 : decode prog_9_method_14_code 5 = .ok (.invokevirtual 109, 3) := by decide +kernel
theorem d_Md_move_8 : decode prog_9_method_14_code 8 = .ok (.istore_n 1, 1) := by decide +kernel
theorem d_Md_move_9 : decode prog_9_method_14_code 9 = .ok (.iload_n 1, 1) := by decide +kernel
theorem d_Md_move_10 : decode prog_9_method_14_code 10 = .ok (.iconst 3, 1) := by decide +kernel
theorem d_Md_move_11 : decode prog_9_method_14_code 11 = .ok (.if_icmp .ge 47, 3) := by decide +kernel
theorem d_Md_move_14 : decode prog_9_method_14_code 14 = .ok (.aload_n 0, 1) := by decide +kernel
theorem d_Md_move_15 : decode prog_9_method_14_code 15 = .ok (.getfield 31, 3) := by decide +kernel
theorem d_Md_move_18 : decode prog_9_method_14_code 18 = .ok (.iload_n 1, 1) := by decide +kernel
theorem d_Md_move_19 : decode prog_9_method_14_code 19 = .ok (.aload_n 0, 1) := by decide +kernel
theorem d_Md_move_20 : decode prog_9_method_14_code 20 = .ok (.getfield 7, 3) := by decide +kernel
theorem d_Md_move_23 : decode prog_9_method_14_code 23 = .ok (.aload_n 0, 1) := by decide +kernel
theorem d_Md_move_24 : decode prog_9_method_14_code 24 = .ok (.getfield 13, 3) := by decide +kernel
theorem d_Md_move_27 : decode prog_9_method_14_code 27 = .ok (.bipush 12, 2) := by decide +kernel
theorem d_Md_move_29 : decode prog_9_method_14_code 29 = .ok (.iload_n 1, 1) := by decide +kernel
theorem d_Md_move_30 : decode prog_9_method_14_code 30 = .ok (.iadd, 1) := by decide +kernel
theorem d_Md_move_31 : decode prog_9_method_14_code 31 = .ok (.iaload, 1) := by decide +kernel
theorem d_Md_move_32 : decode prog_9_method_14_code 32 = .ok (.iaload, 1) := by decide +kernel
theorem d_Md_move_33 : decode prog_9_method_14_code 33 = .ok (.iastore, 1) := by decide +kernel
theorem d_Md_move_34 : decode prog_9_method_14_code 34 = .ok (.aload_n 0, 1) := by decide +kernel
theorem d_Md_move_35 : decode prog_9_method_14_code 35 = .ok (.getfield 13, 3) := by decide +kernel
theorem d_Md_move_38 : decode prog_9_method_14_code 38 = .ok (.bipush 12, 2) := by decide +kernel
theorem d_Md_move_40 : decode prog_9_method_14_code 40 = .ok (.iload_n 1, 1) := by decide +kernel
theorem d_Md_move_41 : decode prog_9_method_14_code 41 = .ok (.iadd, 1) := by decide +kernel
theorem d_Md_move_42 : decode prog_9_method_14_code 42 = .ok (.aload_n 0, 1) := by decide +kernel
theorem d_Md_move_43 : decode prog_9_method_14_code 43 = .ok (.getfield 13, 3) := by decide +kernel
theorem d_Md_move_46 : decode prog_9_method_14_code 46 = .ok (.bipush 12, 2) := by decide +kernel
theorem d_Md_move_48 : decode prog_9_method_14_code 48 = .ok (.iload_n 1, 1) := by decide +kernel
theorem d_Md_move_49 : decode prog_9_method_14_code 49 = .ok (.iadd, 1) := by decide +kernel
theorem d_Md_move_50 : decode prog_9_method_14_code 50 = .ok (.iaload, 1) := by decide +kernel
theorem d_Md_move_51 : decode prog_9_method_14_code 51 = .ok (.iconst 1, 1) := by decide +kernel
theorem d_Md_move_52 : decode prog_9_method_14_code 52 = .ok (.iadd, 1) := by decide +kernel
theorem d_Md_move_53 : decode prog_9_method_14_code 53 = .ok (.sipush 255, 3) := by decide +kernel
theorem d_Md_move_56 : decode prog_9_method_14_code 56 = .ok (.iand, 1) := by decide +kernel
theorem d_Md_move_57 : decode prog_9_method_14_code 57 = .ok (.iastore, 1) := by decide +kernel
theorem d_Md_move_58 : decode prog_9_method_14_code 58 = .ok (.aload_n 0, 1) := by decide +kernel
theorem d_Md_move_59 : decode prog_9_method_14_code 59 = .ok (.iload_n 1, 1) := by decide +kernel
theorem d_Md_move_60 : decode prog_9_method_14_code 60 = .ok (.iconst 1, 1) := by decide +kernel
theorem d_Md_move_61 : decode prog_9_method_14_code 61 = .ok (.iadd, 1) := by decide +kernel
theorem d_Md_move_62 : decode prog_9_method_14_code 62 = .ok (.putfield 79, 3) := by decide +kernel
theorem d_Md_move_65 : decode prog_9_method_14_code 65 = .ok (.iload_n 1, 1) := by decide +kernel
theorem d_Md_move_66 : decode prog_9_method_14_code 66 = .ok (.iconst 4, 1) := by decide +kernel
theorem d_Md_move_67 : decode prog_9_method_14_code 67 = .ok (.if_icmp .ge 15, 3) := by decide +kernel
theorem d_Md_move_70 : decode prog_9_method_14_code 70 = .ok (.aload_n 0, 1) := by decide +kernel
theorem d_Md_move_71 : decode prog_9_method_14_code 71 = .ok (.iload_n 1, 1) := by decide +kernel
theorem d_Md_move_72 : decode prog_9_method_14_code 72 = .ok (.iconst 1, 1) := by decide +kernel
theorem d_Md_move_73 : decode prog_9_method_14_code 73 = .ok (.iadd, 1) := by decide +kernel
theorem d_Md_move_74 : decode prog_9_method_14_code 74 = .ok (.invokevirtual 109, 3) := by decide +kernel
theorem d_Md_move_77 : decode prog_9_method_14_code 77 = .ok (.iconst 4, 1) := by decide +kernel
theorem d_Md_move_78 : decode prog_9_method_14_code 78 = .ok (.if_icmp .ge 4, 3) := by decide +kernel
theorem d_Md_move_81 : decode prog_9_method_14_code 81 = .ok (.return_, 1) := by decide +kernel
theorem d_Md_move_82 : decode prog_9_method_14_code 82 = .ok (.aload_n 0, 1) := by decide +kernel
theorem d_Md_move_83 : decode prog_9_method_14_code 83 = .ok (.iconst 0, 1) := by decide +kernel
theorem d_Md_move_84 : decode prog_9_method_14_code 84 = .ok (.invokevirtual 113, 3) := by decide +kernel
theorem d_Md_move_87 : decode prog_9_method_14_code 87 = .ok (.istore_n 2, 1) := by decide +kernel
theorem d_Md_move_88 : decode prog_9_method_14_code 88 = .ok (.aload_n 0, 1) := by decide +kernel
theorem d_Md_move_89 : decode prog_9_method_14_code 89 = .ok (.getfield 73, 3) := by decide +kernel
theorem d_Md_move_92 : decode prog_9_method_14_code 92 = .ok (.ifCond .ne 13, 3) := by decide +kernel
theorem d_Md_move_95 : decode prog_9_method_14_code 95 = .ok (.iload_n 2, 1) := by decide +kernel
theorem d_Md_move_96 : decode prog_9_method_14_code 96 = .ok (.aload_n 0, 1) := by decide +kernel
theorem d_Md_move_97 : decode prog_9_method_14_code 97 = .ok (.getfield 13, 3) := by decide +kernel
theorem d_Md_move_100 : decode prog_9_method_14_code 100 = .ok (.bipush 20, 2) := by decide +kernel
theorem d_Md_move_102 : decode prog_9_method_14_code 102 = .ok (.iaload, 1) := by decide +kernel
theorem d_Md_move_103 : decode prog_9_method_14_code 103 = .ok (.iand, 1) := by decide +kernel
theorem d_Md_move_104 : decode prog_9_method_14_code 104 = .ok (.istore_n 2, 1) := by decide +kernel
theorem d_Md_move_105 : decode prog_9_method_14_code 105 = .ok (.aload_n 0, 1) := by decide +kernel
theorem d_Md_move_106 : decode prog_9_method_14_code 106 = .ok (.getfield 73, 3) := by decide +kernel
theorem d_Md_move_109 : decode prog_9_method_14_code 109 = .ok (.aload_n 0, 1) := by decide +kernel
theorem d_Md_move_110 : decode prog_9_method_14_code 110 = .ok (.getfield 67, 3) := by decide +kernel
theorem d_Md_move_113 : decode prog_9_method_14_code 113 = .ok (.iconst 1, 1) := by decide +kernel
theorem d_Md_move_114 : decode prog_9_method_14_code 114 = .ok (.isub, 1) := by decide +kernel
theorem d_Md_move_115 : decode prog_9_method_14_code 115 = .ok (.if_icmp .ne 13, 3) := by decide +kernel
theorem d_Md_move_118 : decode prog_9_method_14_code 118 = .ok (.iload_n 2, 1) := by decide +kernel
theorem d_Md_move_119 : decode prog_9_method_14_code 119 = .ok (.aload_n 0, 1) := by decide +kernel
theorem d_Md_move_120 : decode prog_9_method_14_code 120 = .ok (.getfield 13, 3) := by decide +kernel
theorem d_Md_move_123 : decode prog_9_method_14_code 123 = .ok (.bipush 21, 2) := by decide +kernel
theorem d_Md_move_125 : decode prog_9_method_14_code 125 = .ok (.iaload, 1) := by decide +kernel
theorem d_Md_move_126 : decode prog_9_method_14_code 126 = .ok (.iand, 1) := by decide +kernel
theorem d_Md_move_127 : decode prog_9_method_14_code 127 = .ok (.istore_n 2, 1) := by decide +kernel
theorem d_Md_move_128 : decode prog_9_method_14_code 128 = .ok (.aload_n 0, 1) := by decide +kernel
theorem d_Md_move_129 : decode prog_9_method_14_code 129 = .ok (.iconst 1, 1) := by decide +kernel
theorem d_Md_move_130 : decode prog_9_method_14_code 130 = .ok (.invokevirtual 113, 3) := by decide +kernel
theorem d_Md_move_133 : decode prog_9_method_14_code 133 = .ok (.istore_n 3, 1) := by decide +kernel
theorem d_Md_move_134 : decode prog_9_method_14_code 134 = .ok (.aload_n 0, 1) := by decide +kernel
theorem d_Md_move_135 : decode prog_9_method_14_code 135 = .ok (.getfield 82, 3) := by decide +kernel
theorem d_Md_move_138 : decode prog_9_method_14_code 138 = .ok (.i2l, 1) := by decide +kernel
theorem d_Md_move_139 : decode prog_9_method_14_code 139 = .ok (.bipush 16, 2) := by decide +kernel
theorem d_Md_move_141 : decode prog_9_method_14_code 141 = .ok (.lshl, 1) := by decide +kernel
theorem d_Md_move_142 : decode prog_9_method_14_code 142 = .ok (.iload_n 2, 1) := by decide +kernel
theorem d_Md_move_143 : decode prog_9_method_14_code 143 = .ok (.i2l, 1) := by decide +kernel
theorem d_Md_move_144 : decode prog_9_method_14_code 144 = .ok (.lor, 1) := by decide +kernel
theorem d_Md_move_145 : decode prog_9_method_14_code 145 = .ok (.aload_n 0, 1) := by decide +kernel
theorem d_Md_move_146 : decode prog_9_method_14_code 146 = .ok (.getfield 13, 3) := by decide +kernel
theorem d_Md_move_149 : decode prog_9_method_14_code 149 = .ok (.bipush 10, 2) := by decide +kernel
theorem d_Md_move_151 : decode prog_9_method_14_code 151 = .ok (.iaload, 1) := by decide +kernel
theorem d_Md_move_152 : decode prog_9_method_14_code 152 = .ok (.bipush 12, 2) := by decide +kernel
theorem d_Md_move_154 : decode prog_9_method_14_code 154 = .ok (.ishr, 1) := by decide +kernel
theorem d_Md_move_155 : decode prog_9_method_14_code 155 = .ok (.lshr, 1) := by decide +kernel
theorem d_Md_move_156 : decode prog_9_method_14_code 156 = .ok (.l2i, 1) := by decide +kernel
theorem d_Md_move_157 : decode prog_9_method_14_code 157 = .ok (.ldc 88, 2) := by decide +kernel
theorem d_Md_move_159 : decode prog_9_method_14_code 159 = .ok (.iand, 1) := by decide +kernel
theorem d_Md_move_160 : decode prog_9_method_14_code 160 = .ok (.istore 4, 2) := by decide +kernel
theorem d_Md_move_162 : decode prog_9_method_14_code 162 = .ok (.aload_n 0, 1) := by decide +kernel
theorem d_Md_move_163 : decode prog_9_method_14_code 163 = .ok (.getfield 85, 3) := by decide +kernel
theorem d_Md_move_166 : decode prog_9_method_14_code 166 = .ok (.i2l, 1) := by decide +kernel
theorem d_Md_move_167 : decode prog_9_method_14_code 167 = .ok (.bipush 16, 2) := by decide +kernel
theorem d_Md_move_169 : decode prog_9_method_14_code 169 = .ok (.lshl, 1) := by decide +kernel
theorem d_Md_move_170 : decode prog_9_method_14_code 170 = .ok (.iload_n 3, 1) := by decide +kernel
theorem d_Md_move_171 : decode prog_9_method_14_code 171 = .ok (.i2l, 1) := by decide +kernel
theorem d_Md_move_172 : decode prog_9_method_14_code 172 = .ok (.lor, 1) := by decide +kernel
theorem d_Md_move_173 : decode prog_9_method_14_code 173 = .ok (.aload_n 0, 1) := by decide +kernel
theorem d_Md_move_174 : decode prog_9_method_14_code 174 = .ok (.getfield 13, 3) := by decide +kernel
theorem d_Md_move_177 : decode prog_9_method_14_code 177 = .ok (.bipush 11, 2) := by decide +kernel
theorem d_Md_move_179 : decode prog_9_method_14_code 179 = .ok (.iaload, 1) := by decide +kernel
theorem d_Md_move_180 : decode prog_9_method_14_code 180 = .ok (.lshr, 1) := by decide +kernel
theorem d_Md_move_181 : decode prog_9_method_14_code 181 = .ok (.l2i, 1) := by decide +kernel
theorem d_Md_move_182 : decode prog_9_method_14_code 182 = .ok (.ldc 88, 2) := by decide +kernel
theorem d_Md_move_184 : decode prog_9_method_14_code 184 = .ok (.iand, 1) := by decide +kernel
theorem d_Md_move_185 : decode prog_9_method_14_code 185 = .ok (.istore 5, 2) := by decide +kernel
theorem d_Md_move_187 : decode prog_9_method_14_code 187 = .ok (.aload_n 0, 1) := by decide +kernel
theorem d_Md_move_188 : decode prog_9_method_14_code 188 = .ok (.iconst 2, 1) := by decide +kernel
theorem d_Md_move_189 : decode prog_9_method_14_code 189 = .ok (.invokevirtual 113, 3) := by decide +kernel
theorem d_Md_move_192 : decode prog_9_method_14_code 192 = .ok (.istore 6, 2) := by decide +kernel
theorem d_Md_move_194 : decode prog_9_method_14_code 194 = .ok (.aload_n 0, 1) := by decide +kernel
theorem d_Md_move_195 : decode prog_9_method_14_code 195 = .ok (.iload_n 2, 1) := by decide +kernel
theorem d_Md_move_196 : decode prog_9_method_14_code 196 = .ok (.putfield 82, 3) := by decide +kernel
theorem d_Md_move_199 : decode prog_9_method_14_code 199 = .ok (.aload_n 0, 1) := by decide +kernel
theorem d_Md_move_200 : decode prog_9_method_14_code 200 = .ok (.iload_n 3, 1) := by decide +kernel
theorem d_Md_move_201 : decode prog_9_method_14_code 201 = .ok (.putfield 85, 3) := by decide +kernel
theorem d_Md_move_204 : decode prog_9_method_14_code 204 = .ok (.iconst 0, 1) := by decide +kernel
theorem d_Md_move_205 : decode prog_9_method_14_code 205 = .ok (.istore 7, 2) := by decide +kernel
theorem d_Md_move_207 : decode prog_9_method_14_code 207 = .ok (.iconst 0, 1) := by decide +kernel
theorem d_Md_move_208 : decode prog_9_method_14_code 208 = .ok (.istore 8, 2) := by decide +kernel
theorem d_Md_move_210 : decode prog_9_method_14_code 210 = .ok (.iload 8, 2) := by decide +kernel
theorem d_Md_move_212 : decode prog_9_method_14_code 212 = .ok (.bipush 16, 2) := by decide +kernel
theorem d_Md_move_214 : decode prog_9_method_14_code 214 = .ok (.if_icmp .ge 58, 3) := by decide +kernel
theorem d_Md_move_217 : decode prog_9_method_14_code 217 = .ok (.iconst 4, 1) := by decide +kernel
theorem d_Md_move_218 : decode prog_9_method_14_code 218 = .ok (.iload 4, 2) := by decide +kernel
theorem d_Md_move_220 : decode prog_9_method_14_code 220 = .ok (.iload 8, 2) := by decide +kernel
theorem d_Md_move_222 : decode prog_9_method_14_code 222 = .ok (.ishr, 1) := by decide +kernel
theorem d_Md_move_223 : decode prog_9_method_14_code 223 = .ok (.iconst 1, 1) := by decide +kernel
theorem d_Md_move_224 : decode prog_9_method_14_code 224 = .ok (.iand, 1) := by decide +kernel
theorem d_Md_move_225 : decode prog_9_method_14_code 225 = .ok (.imul, 1) := by decide +kernel
theorem d_Md_move_226 : decode prog_9_method_14_code 226 = .ok (.iconst 2, 1) := by decide +kernel
theorem d_Md_move_227 : decode prog_9_method_14_code 227 = .ok (.iload 5, 2) := by decide +kernel
theorem d_Md_move_229 : decode prog_9_method_14_code 229 = .ok (.iload 8, 2) := by decide +kernel
theorem d_Md_move_231 : decode prog_9_method_14_code 231 = .ok (.ishr, 1) := by decide +kernel
theorem d_Md_move_232 : decode prog_9_method_14_code 232 = .ok (.iconst 1, 1) := by decide +kernel
theorem d_Md_move_233 : decode prog_9_method_14_code 233 = .ok (.iand, 1) := by decide +kernel
theorem d_Md_move_234 : decode prog_9_method_14_code 234 = .ok (.imul, 1) := by decide +kernel
theorem d_Md_move_235 : decode prog_9_method_14_code 235 = .ok (.iadd, 1) := by decide +kernel
theorem d_Md_move_236 : decode prog_9_method_14_code 236 = .ok (.iload 6, 2) := by decide +kernel
theorem d_Md_move_238 : decode prog_9_method_14_code 238 = .ok (.iload 8, 2) := by decide +kernel
theorem d_Md_move_240 : decode prog_9_method_14_code 240 = .ok (.ishr, 1) := by decide +kernel
theorem d_Md_move_241 : decode prog_9_method_14_code 241 = .ok (.iconst 1, 1) := by decide +kernel
theorem d_Md_move_242 : decode prog_9_method_14_code 242 = .ok (.iand, 1) := by decide +kernel
theorem d_Md_move_243 : decode prog_9_method_14_code 243 = .ok (.iadd, 1) := by decide +kernel
theorem d_Md_move_244 : decode prog_9_method_14_code 244 = .ok (.istore 9, 2) := by decide +kernel
theorem d_Md_move_246 : decode prog_9_method_14_code 246 = .ok (.iload 7, 2) := by decide +kernel
theorem d_Md_move_248 : decode prog_9_method_14_code 248 = .ok (.aload_n 0, 1) := by decide +kernel
theorem d_Md_move_249 : decode prog_9_method_14_code 249 = .ok (.getfield 13, 3) := by decide +kernel
theorem d_Md_move_252 : decode prog_9_method_14_code 252 = .ok (.bipush 10, 2) := by decide +kernel
theorem d_Md_move_254 : decode prog_9_method_14_code 254 = .ok (.iaload, 1) := by decide +kernel
theorem d_Md_move_255 : decode prog_9_method_14_code 255 = .ok (.iload 9, 2) := by decide +kernel
theorem d_Md_move_257 : decode prog_9_method_14_code 257 = .ok (.ishr, 1) := by decide +kernel
theorem d_Md_move_258 : decode prog_9_method_14_code 258 = .ok (.iconst 1, 1) := by decide +kernel
theorem d_Md_move_259 : decode prog_9_method_14_code 259 = .ok (.iand, 1) := by decide +kernel
theorem d_Md_move_260 : decode prog_9_method_14_code 260 = .ok (.iload 8, 2) := by decide +kernel
theorem d_Md_move_262 : decode prog_9_method_14_code 262 = .ok (.ishl, 1) := by decide +kernel
theorem d_Md_move_263 : decode prog_9_method_14_code 263 = .ok (.ior, 1) := by decide +kernel
theorem d_Md_move_264 : decode prog_9_method_14_code 264 = .ok (.istore 7, 2) := by decide +kernel
theorem d_Md_move_266 : decode prog_9_method_14_code 266 = .ok (.iinc 8 1, 3) := by decide +kernel
theorem d_Md_move_269 : decode prog_9_method_14_code 269 = .ok (.goto (-59), 3) := by decide +kernel
theorem d_Md_move_272 : decode prog_9_method_14_code 272 = .ok (.iload 7, 2) := by decide +kernel
theorem d_Md_move_274 : decode prog_9_method_14_code 274 = .ok (.ifCond .eq 8, 3) := by decide +kernel
theorem d_Md_move_277 : decode prog_9_method_14_code 277 = .ok (.aload_n 0, 1) := by decide +kernel
theorem d_Md_move_278 : decode prog_9_method_14_code 278 = .ok (.iconst 0, 1) := by decide +kernel
theorem d_Md_move_279 : decode prog_9_method_14_code 279 = .ok (.putfield 64, 3) := by decide +kernel
theorem d_Md_move_282 : decode prog_9_method_14_code 282 = .ok (.iload_n 1, 1) := by decide +kernel
theorem d_Md_move_283 : decode prog_9_method_14_code 283 = .ok (.iconst 3, 1) := by decide +kernel
theorem d_Md_move_284 : decode prog_9_method_14_code 284 = .ok (.if_icmp .ne 37, 3) := by decide +kernel
theorem d_Md_move_287 : decode prog_9_method_14_code 287 = .ok (.aload_n 0, 1) := by decide +kernel
theorem d_Md_move_288 : decode prog_9_method_14_code 288 = .ok (.getfield 7, 3) := by decide +kernel
theorem d_Md_move_291 : decode prog_9_method_14_code 291 = .ok (.aload_n 0, 1) := by decide +kernel
theorem d_Md_move_292 : decode prog_9_method_14_code 292 = .ok (.getfield 13, 3) := by decide +kernel
theorem d_Md_move_295 : decode prog_9_method_14_code 295 = .ok (.bipush 15, 2) := by decide +kernel
theorem d_Md_move_297 : decode prog_9_method_14_code 297 = .ok (.iaload, 1) := by decide +kernel
theorem d_Md_move_298 : decode prog_9_method_14_code 298 = .ok (.iload 7, 2) := by decide +kernel
theorem d_Md_move_300 : decode prog_9_method_14_code 300 = .ok (.iastore, 1) := by decide +kernel
theorem d_Md_move_301 : decode prog_9_method_14_code 301 = .ok (.aload_n 0, 1) := by decide +kernel
theorem d_Md_move_302 : decode prog_9_method_14_code 302 = .ok (.getfield 13, 3) := by decide +kernel
theorem d_Md_move_305 : decode prog_9_method_14_code 305 = .ok (.bipush 15, 2) := by decide +kernel
theorem d_Md_move_307 : decode prog_9_method_14_code 307 = .ok (.aload_n 0, 1) := by decide +kernel
theorem d_Md_move_308 : decode prog_9_method_14_code 308 = .ok (.getfield 13, 3) := by decide +kernel
theorem d_Md_move_311 : decode prog_9_method_14_code 311 = .ok (.bipush 15, 2) := by decide +kernel
theorem d_Md_move_313 : decode prog_9_method_14_code 313 = .ok (.iaload, 1) := by decide +kernel
theorem d_Md_move_314 : decode prog_9_method_14_code 314 = .ok (.iconst 1, 1) := by decide +kernel
theorem d_Md_move_315 : decode prog_9_method_14_code 315 = .ok (.iadd, 1) := by decide +kernel
theorem d_Md_move_316 : decode prog_9_method_14_code 316 = .ok (.sipush 255, 3) := by decide +kernel
theorem d_Md_move_319 : decode prog_9_method_14_code 319 = .ok (.iand, 1) := by decide +kernel
theorem d_Md_move_320 : decode prog_9_method_14_code 320 = .ok (.iastore, 1) := by decide +kernel
theorem d_Md_move_321 : decode prog_9_method_14_code 321 = .ok (.aload_n 0, 1) := by decide +kernel
theorem d_Md_move_322 : decode prog_9_method_14_code 322 = .ok (.invokevirtual 116, 3) := by decide +kernel
theorem d_Md_move_325 : decode prog_9_method_14_code 325 = .ok (.return_, 1) := by decide +kernel
theorem yd_Md_move : y_Md_move.cls ≠ "java/lang/invoke/MethodHandle" ∧ y_Md_move.cls ≠ "java/lang/invoke/VarHandle" ∧ (parseMethodDescriptor y_Md_move.desc).map (fun d => d.parameters.length) = some 0 := by decide +kernel
theorem tb_cd_Md_move : Cond.code y_Md_move prog_9_method_14_code 10 none ∈ TB := tb_in 600 (by decide +kernel) (by decide +kernel)
theorem tb_im_Md_move : Cond.instanceMethod y_Md_move ∈ TB := tb_in 599 (by decide +kernel) (by decide +kernel)
theorem tb_se_Md_move : Cond.selects "SlotBoardModel" y_Md_move y_Md_move ∈ TB := tb_inS 25 (by decide +kernel) (by decide +kernel)
theorem tb_ml_Md_109 : Cond.methodLink "SlotBoardModel" 109 y_Md_nextUsed ∈ TB := tb_in 601 (by decide +kernel) (by decide +kernel)
theorem tb_ml_Md_113 : Cond.methodLink "SlotBoardModel" 113 y_Md_wordOf ∈ TB := tb_in 609 (by decide +kernel) (by decide +kernel)
theorem tb_ml_Md_116 : Cond.methodLink "SlotBoardModel" 116 y_Md_nextWord ∈ TB := tb_in 613 (by decide +kernel) (by decide +kernel)
def f_Md_move_321 (S : SS) (M : MM) (x1 : Int32) (x2 : Int32) (x3 : Int32) (x4 : Int32) (x5 : Int32) (x6 : Int32) (x7 : Int32) (x8 : Int32) : Option RR := (f_Md_nextWord S M).bind (fun q1 => some (0, q1.2.1, q1.2.2))
def f_Md_move_282 (S : SS) (M : MM) (x1 : Int32) (x2 : Int32) (x3 : Int32) (x4 : Int32) (x5 : Int32) (x6 : Int32) (x7 : Int32) (x8 : Int32) : Option RR := if x1 = (3 : Int32) then if M 1 15 < 0 ∨ 256 ≤ (M 1 15).toNatClampNeg then none else f_Md_move_321 S (upM (upM M 0 (upd (M 0) (M 1 15).toNatClampNeg x7)) 1 (upd ((upM M 0 (upd (M 0) (M 1 15).toNatClampNeg x7)) 1) 15 ((((upM M 0 (upd (M 0) (M 1 15).toNatClampNeg x7)) 1 15) + (1 : Int32)) &&& (255 : Int32)))) x1 x2 x3 x4 x5 x6 x7 x8 else f_Md_move_321 S M x1 x2 x3 x4 x5 x6 x7 x8
def f_Md_move_210_b (rec : SS → MM → Int32 → Int32 → Int32 → Int32 → Int32 → Int32 → Int32 → Int32 → Option RR) (S : SS) (M : MM) (x1 : Int32) (x2 : Int32) (x3 : Int32) (x4 : Int32) (x5 : Int32) (x6 : Int32) (x7 : Int32) (x8 : Int32) : Option RR := if (16 : Int32) ≤ x8 then if x7 = 0 then f_Md_move_282 S M x1 x2 x3 x4 x5 x6 x7 x8 else f_Md_move_282 (upd S 10 (0 : Int32)) M x1 x2 x3 x4 x5 x6 x7 x8 else rec S M x1 x2 x3 x4 x5 x6 (x7 ||| ((((M 1 10) >>> (((((4 : Int32) * ((x4 >>> (x8 &&& 31)) &&& (1 : Int32))) + ((2 : Int32) * ((x5 >>> (x8 &&& 31)) &&& (1 : Int32)))) + ((x6 >>> (x8 &&& 31)) &&& (1 : Int32))) &&& 31)) &&& (1 : Int32)) <<< (x8 &&& 31))) (x8 + (1 : Int32))
def f_Md_move_210 : Nat → SS → MM → Int32 → Int32 → Int32 → Int32 → Int32 → Int32 → Int32 → Int32 → Option RR
  | 0 => fun _ _ _ _ _ _ _ _ _ _ => none
  | n + 1 => f_Md_move_210_b (f_Md_move_210 n)
def f_Md_move_128 (S : SS) (M : MM) (x1 : Int32) (x2 : Int32) : Option RR := (f_Md_wordOf S M (1 : Int32)).bind (fun q3 => (f_Md_wordOf q3.2.1 q3.2.2 (2 : Int32)).bind (fun q4 => f_Md_move_210 20 (upd (upd q4.2.1 16 x2) 17 q3.1) q4.2.2 x1 x2 q3.1 (((((((q3.2.1 16).toInt64) <<< ((16 : Int32).toInt64 &&& 63)) ||| x2.toInt64) >>> (((q3.2.2 1 10) >>> ((12 : Int32) &&& 31)).toInt64 &&& 63)).toInt32) &&& (65535 : Int32)) (((((((q3.2.1 17).toInt64) <<< ((16 : Int32).toInt64 &&& 63)) ||| q3.1.toInt64) >>> ((q3.2.2 1 11).toInt64 &&& 63)).toInt32) &&& (65535 : Int32)) q4.1 (0 : Int32) (0 : Int32)))
def f_Md_move_105 (S : SS) (M : MM) (x1 : Int32) (x2 : Int32) : Option RR := if S 13 = (S 11) - (1 : Int32) then f_Md_move_128 S M x1 (x2 &&& (M 1 21)) else f_Md_move_128 S M x1 x2
def f_Md_move_82 (S : SS) (M : MM) (x1 : Int32) : Option RR := (f_Md_wordOf S M (0 : Int32)).bind (fun q5 => if q5.2.1 13 = 0 then f_Md_move_105 q5.2.1 q5.2.2 x1 (q5.1 &&& (q5.2.2 1 20)) else f_Md_move_105 q5.2.1 q5.2.2 x1 q5.1)
def f_Md_move_58 (S : SS) (M : MM) (x1 : Int32) : Option RR := if (4 : Int32) ≤ x1 then f_Md_move_82 (upd S 15 (x1 + (1 : Int32))) M x1 else (f_Md_nextUsed (upd S 15 (x1 + (1 : Int32))) M (x1 + (1 : Int32))).bind (fun q6 => if (4 : Int32) ≤ q6.1 then f_Md_move_82 q6.2.1 q6.2.2 x1 else some (0, q6.2.1, q6.2.2))
def f_Md_move (S : SS) (M : MM) : Option RR := (f_Md_nextUsed S M (S 15)).bind (fun q7 => if (3 : Int32) ≤ q7.1 then f_Md_move_58 q7.2.1 q7.2.2 q7.1 else if (12 : Int32) + q7.1 < 0 ∨ 28 ≤ ((12 : Int32) + q7.1).toNatClampNeg then none else if q7.2.2 1 ((12 : Int32) + q7.1).toNatClampNeg < 0 ∨ 256 ≤ (q7.2.2 1 ((12 : Int32) + q7.1).toNatClampNeg).toNatClampNeg then none else if q7.1 < 0 ∨ 4 ≤ q7.1.toNatClampNeg then none else if (12 : Int32) + q7.1 < 0 ∨ 28 ≤ ((12 : Int32) + q7.1).toNatClampNeg then none else if (12 : Int32) + q7.1 < 0 ∨ 28 ≤ ((12 : Int32) + q7.1).toNatClampNeg then none else f_Md_move_58 q7.2.1 (upM (upM q7.2.2 7 (upd (q7.2.2 7) q7.1.toNatClampNeg (q7.2.2 0 (q7.2.2 1 ((12 : Int32) + q7.1).toNatClampNeg).toNatClampNeg))) 1 (upd ((upM q7.2.2 7 (upd (q7.2.2 7) q7.1.toNatClampNeg (q7.2.2 0 (q7.2.2 1 ((12 : Int32) + q7.1).toNatClampNeg).toNatClampNeg))) 1) ((12 : Int32) + q7.1).toNatClampNeg ((((upM q7.2.2 7 (upd (q7.2.2 7) q7.1.toNatClampNeg (q7.2.2 0 (q7.2.2 1 ((12 : Int32) + q7.1).toNatClampNeg).toNatClampNeg))) 1 ((12 : Int32) + q7.1).toNatClampNeg) + (1 : Int32)) &&& (255 : Int32)))) q7.1)
set_option maxHeartbeats 4000000 in
set_option maxRecDepth 100000 in
theorem c_Md_move (l : Launch) (D : va_G) (cA : ClassId) (b : Nat → Nat) (S : SS) (M : MM) (q : RR) (h0 : f_Md_move S M = some q) : Cv l y_Md_move w_Md_move rm_Md_move D vCl [(cA, .int)] (AM b) (ZM b) (wM cA b) [.ref (b 0)] S M q := by
  refine Cv.of (cc := prog_9_method_14_code) (maxL := 10) (by decide) rfl (Nat.le_of_ble_eq_true rfl) ?_
  intro p e s m args below meth c Q hx hb hml hown hts hK hZ ret
  have hown : s.vm.findClass R_Md = some m.cls := hown
  have hts : ∀ w ∈ TB, w.before args s = true := fun w h => hts w (List.mem_cons_of_mem _ h)
  have hZK := ZM_k b
  have k79 := hts _ tb_fl_Md_79
  have k31 := hts _ tb_fl_Md_31
  have k7 := hts _ tb_fl_Md_7
  have k13 := hts _ tb_fl_Md_13
  have k73 := hts _ tb_fl_Md_73
  have k67 := hts _ tb_fl_Md_67
  have k82 := hts _ tb_fl_Md_82
  have k88 := hts _ tb_ct_Md_88
  have k85 := hts _ tb_fl_Md_85
  have k64 := hts _ tb_fl_Md_64
  have b321 : ∀ (S : SS) (M : MM) (x1 : Int32) (x2 : Int32) (x3 : Int32) (x4 : Int32) (x5 : Int32) (x6 : Int32) (x7 : Int32) (x8 : Int32), f_Md_move_321 S M x1 x2 x3 x4 x5 x6 x7 x8 = some q → BK p l e rm_Md_move s m args below meth c Q D vCl (AM b) (wM cA b) 10 321 [(0, .ref (b 0)), (1, .int x1), (2, .int x2), (3, .int x3), (4, .int x4), (5, .int x5), (6, .int x6), (7, .int x7), (8, .int x8)] [] S M := by
    intro S M x1 x2 x3 x4 x5 x6 x7 x8 h H locs ls hl hP hD hS
    unfold f_Md_move_321 at h
    refine lv_aload_n hx hb d_Md_move_321 rfl (lv_at hl 0 rfl) ?_
    obtain ⟨⟨r1, S1, M1⟩, hc1, h⟩ := sg_b h
    dsimp only at h
    refine cvv (As := []) (rest := []) ⟨hx, hb, hml, hown, hts⟩ (c_Md_nextWord l D cA b S M _ hc1) ⟨callB_of 0 hts (tb_gi tb_cd_Md_nextWord) rfl rfl rfl (hts _ tb_in_Md) (hts _ tb_ml_Md_116) yd_Md_nextWord ⟨Nat.le_of_ble_eq_true rfl, Nat.le_of_ble_eq_true rfl⟩, hts _ tb_im_Md_nextWord, hts _ tb_se_Md_nextWord⟩ hZK hK hZ hP hD hS 0 (wM_at0 _ _ _ _) rfl rfl hl.1 rfl (Nat.le_of_ble_eq_true rfl) d_Md_move_322 (fun H locs hP hD hS => ?_)
    exact ret _ _ _ _ _ _ _ h hP hD hS d_Md_move_325
  have b282 : ∀ (S : SS) (M : MM) (x1 : Int32) (x2 : Int32) (x3 : Int32) (x4 : Int32) (x5 : Int32) (x6 : Int32) (x7 : Int32) (x8 : Int32), f_Md_move_282 S M x1 x2 x3 x4 x5 x6 x7 x8 = some q → BK p l e rm_Md_move s m args below meth c Q D vCl (AM b) (wM cA b) 10 282 [(0, .ref (b 0)), (1, .int x1), (2, .int x2), (3, .int x3), (4, .int x4), (5, .int x5), (6, .int x6), (7, .int x7), (8, .int x8)] [] S M := by
    intro S M x1 x2 x3 x4 x5 x6 x7 x8 h H locs ls hl hP hD hS
    unfold f_Md_move_282 at h
    refine lv_iload_n hx hb d_Md_move_282 rfl (lv_at hl 1 rfl) ?_
    refine lv_iconst (v := (3 : Int32)) hx hb d_Md_move_283 (by decide) ?_
    refine lv_icmp_ne (tgt := 321) hx hb d_Md_move_284 (by decide) (fun hc => ?_) (fun hc => ?_)
    · have h := sg_n hc h
      exact b321 _ _ _ _ _ _ _ _ _ _ h _ _ _ (lv_sub hl [0, 1, 2, 3, 4, 5, 6, 7, 8] rfl) hP hD hS
    · have h := sg_p hc h
      refine lv_aload_n hx hb d_Md_move_287 rfl (lv_at hl 0 rfl) ?_
      refine va_get (D := D) (ci := 7) (v := .ref (b 1)) (C := R_Md) (T := T_Md) (N := 31) hx hb hts iMd hown hK hP 0 (wM_at0 _ _ _ _) rfl 0 (by decide) k7 (fun _ h9 => h9) rfl d_Md_move_288 ?_
      refine lv_aload_n hx hb d_Md_move_291 rfl (lv_at hl 0 rfl) ?_
      refine va_get (D := D) (ci := 7) (v := .ref (b 2)) (C := R_Md) (T := T_Md) (N := 31) hx hb hts iMd hown hK hP 0 (wM_at0 _ _ _ _) rfl 1 (by decide) k13 (fun _ h9 => h9) rfl d_Md_move_292 ?_
      refine lv_bipush (v := (15 : Int32)) hx hb d_Md_move_295 (by decide) ?_
      refine ialdK hx hb hK hP 2 0 (wM_at2 _ _ _ _) rfl 15 (by decide) (by unfold vp_in; decide) d_Md_move_297 ?_
      refine lv_iload hx hb d_Md_move_298 (lv_at hl 7 rfl) ?_
      obtain ⟨hg2, h⟩ := sg_g h
      refine va_iast (x := x7) hx hb hK hP hD hS 1 0 (wM_at1 _ _ _ _) rfl hg2 d_Md_move_300 (fun H locs hP hD hS => ?_)
      have hP := wM_set1 hP
      have hD := wM_dset1 hD
      refine lv_aload_n hx hb d_Md_move_301 rfl (lv_at hl 0 rfl) ?_
      refine va_get (D := D) (ci := 7) (v := .ref (b 2)) (C := R_Md) (T := T_Md) (N := 31) hx hb hts iMd hown hK hP 0 (wM_at0 _ _ _ _) rfl 1 (by decide) k13 (fun _ h9 => h9) rfl d_Md_move_302 ?_
      refine lv_bipush (v := (15 : Int32)) hx hb d_Md_move_305 (by decide) ?_
      refine lv_aload_n hx hb d_Md_move_307 rfl (lv_at hl 0 rfl) ?_
      refine va_get (D := D) (ci := 7) (v := .ref (b 2)) (C := R_Md) (T := T_Md) (N := 31) hx hb hts iMd hown hK hP 0 (wM_at0 _ _ _ _) rfl 1 (by decide) k13 (fun _ h9 => h9) rfl d_Md_move_308 ?_
      refine lv_bipush (v := (15 : Int32)) hx hb d_Md_move_311 (by decide) ?_
      refine ialdK hx hb hK hP 2 0 (wM_at2 _ _ _ _) rfl 15 (by decide) (by unfold vp_in; decide) d_Md_move_313 ?_
      refine lv_iconst (v := (1 : Int32)) hx hb d_Md_move_314 (by decide) ?_
      refine lv_iadd hx hb d_Md_move_315 ?_
      refine lv_sipush (v := (255 : Int32)) hx hb d_Md_move_316 (by decide) ?_
      refine lv_iand hx hb d_Md_move_319 ?_
      refine iastK (x := (((upM M 0 (upd (M 0) (M 1 15).toNatClampNeg x7)) 1 15) + (1 : Int32)) &&& (255 : Int32)) hx hb hK hP hD hS 2 0 (wM_at2 _ _ _ _) rfl 15 (by decide) (by unfold vp_in; decide) d_Md_move_320 (fun H locs hP hD hS => ?_)
      have hP := wM_set2 hP
      have hD := wM_dset2 hD
      exact b321 _ _ _ _ _ _ _ _ _ _ h _ _ _ (lv_sub hl [0, 1, 2, 3, 4, 5, 6, 7, 8] rfl) hP hD hS
  have b210 : ∀ (n : Nat) (S : SS) (M : MM) (x1 : Int32) (x2 : Int32) (x3 : Int32) (x4 : Int32) (x5 : Int32) (x6 : Int32) (x7 : Int32) (x8 : Int32), f_Md_move_210 n S M x1 x2 x3 x4 x5 x6 x7 x8 = some q → BK p l e rm_Md_move s m args below meth c Q D vCl (AM b) (wM cA b) 10 210 [(0, .ref (b 0)), (1, .int x1), (2, .int x2), (3, .int x3), (4, .int x4), (5, .int x5), (6, .int x6), (7, .int x7), (8, .int x8)] [] S M := by
   intro n
   induction n with
   | zero => intro S M x1 x2 x3 x4 x5 x6 x7 x8 h; cases h
   | succ n hrec =>
    intro S M x1 x2 x3 x4 x5 x6 x7 x8 h H locs ls hl hP hD hS
    have h : f_Md_move_210_b (f_Md_move_210 n) S M x1 x2 x3 x4 x5 x6 x7 x8 = some q := h
    unfold f_Md_move_210_b at h
    refine lv_iload hx hb d_Md_move_210 (lv_at hl 8 rfl) ?_
    refine lv_bipush (v := (16 : Int32)) hx hb d_Md_move_212 (by decide) ?_
    refine lv_icmp_ge (tgt := 272) hx hb d_Md_move_214 (by decide) (fun hc => ?_) (fun hc => ?_)
    · have h := sg_p hc h
      refine lv_iload hx hb d_Md_move_272 (lv_at hl 7 rfl) ?_
      refine lv_if_eq (tgt := 282) hx hb d_Md_move_274 (by decide) (fun hc => ?_) (fun hc => ?_)
      · have h := sg_p hc h
        exact b282 _ _ _ _ _ _ _ _ _ _ h _ _ _ (lv_sub hl [0, 1, 2, 3, 4, 5, 6, 7, 8] rfl) hP hD hS
      · have h := sg_n hc h
        refine lv_aload_n hx hb d_Md_move_277 rfl (lv_at hl 0 rfl) ?_
        refine lv_iconst (v := (0 : Int32)) hx hb d_Md_move_278 (by decide) ?_
        refine puwM_10 (D := D) (x := (0 : Int32)) hx hb hts iMd hown hK hP hD hS k64 (by decide +kernel) (by decide +kernel) d_Md_move_279 (fun H locs hP hD hS => ?_)
        exact b282 _ _ _ _ _ _ _ _ _ _ h _ _ _ (lv_sub hl [0, 1, 2, 3, 4, 5, 6, 7, 8] rfl) hP hD hS
    · have h := sg_n hc h
      refine lv_iconst (v := (4 : Int32)) hx hb d_Md_move_217 (by decide) ?_
      refine lv_iload hx hb d_Md_move_218 (lv_at hl 4 rfl) ?_
      refine lv_iload hx hb d_Md_move_220 (lv_at hl 8 rfl) ?_
      refine lv_ishr hx hb d_Md_move_222 ?_
      refine lv_iconst (v := (1 : Int32)) hx hb d_Md_move_223 (by decide) ?_
      refine lv_iand hx hb d_Md_move_224 ?_
      refine lv_imul hx hb d_Md_move_225 ?_
      refine lv_iconst (v := (2 : Int32)) hx hb d_Md_move_226 (by decide) ?_
      refine lv_iload hx hb d_Md_move_227 (lv_at hl 5 rfl) ?_
      refine lv_iload hx hb d_Md_move_229 (lv_at hl 8 rfl) ?_
      refine lv_ishr hx hb d_Md_move_231 ?_
      refine lv_iconst (v := (1 : Int32)) hx hb d_Md_move_232 (by decide) ?_
      refine lv_iand hx hb d_Md_move_233 ?_
      refine lv_imul hx hb d_Md_move_234 ?_
      refine lv_iadd hx hb d_Md_move_235 ?_
      refine lv_iload hx hb d_Md_move_236 (lv_at hl 6 rfl) ?_
      refine lv_iload hx hb d_Md_move_238 (lv_at hl 8 rfl) ?_
      refine lv_ishr hx hb d_Md_move_240 ?_
      refine lv_iconst (v := (1 : Int32)) hx hb d_Md_move_241 (by decide) ?_
      refine lv_iand hx hb d_Md_move_242 ?_
      refine lv_iadd hx hb d_Md_move_243 ?_
      refine lv_istore (lv' := [(9, .int ((((4 : Int32) * ((x4 >>> (x8 &&& 31)) &&& (1 : Int32))) + ((2 : Int32) * ((x5 >>> (x8 &&& 31)) &&& (1 : Int32)))) + ((x6 >>> (x8 &&& 31)) &&& (1 : Int32)))), (0, .ref (b 0)), (1, .int x1), (2, .int x2), (3, .int x3), (4, .int x4), (5, .int x5), (6, .int x6), (7, .int x7), (8, .int x8)]) hx hb d_Md_move_244 hl (by decide) rfl (fun ls hl => ?_)
      refine lv_iload hx hb d_Md_move_246 (lv_at hl 8 rfl) ?_
      refine lv_aload_n hx hb d_Md_move_248 rfl (lv_at hl 1 rfl) ?_
      refine va_get (D := D) (ci := 7) (v := .ref (b 2)) (C := R_Md) (T := T_Md) (N := 31) hx hb hts iMd hown hK hP 0 (wM_at0 _ _ _ _) rfl 1 (by decide) k13 (fun _ h9 => h9) rfl d_Md_move_249 ?_
      refine lv_bipush (v := (10 : Int32)) hx hb d_Md_move_252 (by decide) ?_
      refine ialdK hx hb hK hP 2 0 (wM_at2 _ _ _ _) rfl 10 (by decide) (by unfold vp_in; decide) d_Md_move_254 ?_
      refine lv_iload hx hb d_Md_move_255 (lv_at hl 0 rfl) ?_
      refine lv_ishr hx hb d_Md_move_257 ?_
      refine lv_iconst (v := (1 : Int32)) hx hb d_Md_move_258 (by decide) ?_
      refine lv_iand hx hb d_Md_move_259 ?_
      refine lv_iload hx hb d_Md_move_260 (lv_at hl 9 rfl) ?_
      refine lv_ishl hx hb d_Md_move_262 ?_
      refine lv_ior hx hb d_Md_move_263 ?_
      refine lv_istore (lv' := [(7, .int (x7 ||| ((((M 1 10) >>> (((((4 : Int32) * ((x4 >>> (x8 &&& 31)) &&& (1 : Int32))) + ((2 : Int32) * ((x5 >>> (x8 &&& 31)) &&& (1 : Int32)))) + ((x6 >>> (x8 &&& 31)) &&& (1 : Int32))) &&& 31)) &&& (1 : Int32)) <<< (x8 &&& 31)))), (9, .int ((((4 : Int32) * ((x4 >>> (x8 &&& 31)) &&& (1 : Int32))) + ((2 : Int32) * ((x5 >>> (x8 &&& 31)) &&& (1 : Int32)))) + ((x6 >>> (x8 &&& 31)) &&& (1 : Int32)))), (0, .ref (b 0)), (1, .int x1), (2, .int x2), (3, .int x3), (4, .int x4), (5, .int x5), (6, .int x6), (8, .int x8)]) hx hb d_Md_move_264 hl (by decide) rfl (fun ls hl => ?_)
      refine lv_iinc (k := 9) (v := x8 + (1 : Int32)) (lv' := [(8, .int (x8 + (1 : Int32))), (7, .int (x7 ||| ((((M 1 10) >>> (((((4 : Int32) * ((x4 >>> (x8 &&& 31)) &&& (1 : Int32))) + ((2 : Int32) * ((x5 >>> (x8 &&& 31)) &&& (1 : Int32)))) + ((x6 >>> (x8 &&& 31)) &&& (1 : Int32))) &&& 31)) &&& (1 : Int32)) <<< (x8 &&& 31)))), (9, .int ((((4 : Int32) * ((x4 >>> (x8 &&& 31)) &&& (1 : Int32))) + ((2 : Int32) * ((x5 >>> (x8 &&& 31)) &&& (1 : Int32)))) + ((x6 >>> (x8 &&& 31)) &&& (1 : Int32)))), (0, .ref (b 0)), (1, .int x1), (2, .int x2), (3, .int x3), (4, .int x4), (5, .int x5), (6, .int x6)]) hx hb d_Md_move_266 hl rfl rfl (by decide) rfl (fun ls hl => ?_)
      refine lv_goto (tgt := 210) hx hb d_Md_move_269 (by decide) ?_
      exact hrec _ _ _ _ _ _ _ _ _ _ h _ _ _ (lv_sub hl [3, 4, 5, 6, 7, 8, 9, 1, 0] rfl) hP hD hS
  have b128 : ∀ (S : SS) (M : MM) (x1 : Int32) (x2 : Int32), f_Md_move_128 S M x1 x2 = some q → BK p l e rm_Md_move s m args below meth c Q D vCl (AM b) (wM cA b) 10 128 [(0, .ref (b 0)), (1, .int x1), (2, .int x2)] [] S M := by
    intro S M x1 x2 h H locs ls hl hP hD hS
    unfold f_Md_move_128 at h
    refine lv_aload_n hx hb d_Md_move_128 rfl (lv_at hl 0 rfl) ?_
    refine lv_iconst (v := (1 : Int32)) hx hb d_Md_move_129 (by decide) ?_
    obtain ⟨⟨r3, S3, M3⟩, hc3, h⟩ := sg_b h
    dsimp only at h
    refine cvi (As := [.int (1 : Int32)]) (rest := []) ⟨hx, hb, hml, hown, hts⟩ (c_Md_wordOf l D cA b S M (1 : Int32) _ hc3) ⟨callB_of 1 hts (tb_gi tb_cd_Md_wordOf) rfl rfl rfl (hts _ tb_in_Md) (hts _ tb_ml_Md_113) yd_Md_wordOf ⟨Nat.le_of_ble_eq_true rfl, Nat.le_of_ble_eq_true rfl⟩, hts _ tb_im_Md_wordOf, hts _ tb_se_Md_wordOf⟩ hZK hK hZ hP hD hS 0 (wM_at0 _ _ _ _) rfl rfl hl.1 rfl (Nat.le_of_ble_eq_true rfl) d_Md_move_130 (fun H locs hP hD hS => ?_)
    refine lv_istore_n (lv' := [(3, .int r3), (0, .ref (b 0)), (1, .int x1), (2, .int x2)]) hx hb d_Md_move_133 rfl hl (by decide) rfl (fun ls hl => ?_)
    refine lv_aload_n hx hb d_Md_move_134 rfl (lv_at hl 1 rfl) ?_
    refine va_get (D := D) (ci := 7) (v := .int (S3 16)) (C := R_Md) (T := T_Md) (N := 31) hx hb hts iMd hown hK hP 0 (wM_at0 _ _ _ _) rfl 23 (by decide) k82 (fun _ h9 => h9) rfl d_Md_move_135 ?_
    refine lv_i2l hx hb d_Md_move_138 rfl ?_
    refine lv_bipush (v := (16 : Int32)) hx hb d_Md_move_139 (by decide) ?_
    refine lv_lshl hx hb d_Md_move_141 rfl ?_
    refine lv_iload_n hx hb d_Md_move_142 rfl (lv_at hl 3 rfl) ?_
    refine lv_i2l hx hb d_Md_move_143 rfl ?_
    refine lv_lor hx hb d_Md_move_144 ?_
    refine lv_aload_n hx hb d_Md_move_145 rfl (lv_at hl 1 rfl) ?_
    refine va_get (D := D) (ci := 7) (v := .ref (b 2)) (C := R_Md) (T := T_Md) (N := 31) hx hb hts iMd hown hK hP 0 (wM_at0 _ _ _ _) rfl 1 (by decide) k13 (fun _ h9 => h9) rfl d_Md_move_146 ?_
    refine lv_bipush (v := (10 : Int32)) hx hb d_Md_move_149 (by decide) ?_
    refine ialdK hx hb hK hP 2 0 (wM_at2 _ _ _ _) rfl 10 (by decide) (by unfold vp_in; decide) d_Md_move_151 ?_
    refine lv_bipush (v := (12 : Int32)) hx hb d_Md_move_152 (by decide) ?_
    refine lv_ishr hx hb d_Md_move_154 ?_
    refine lv_lshr hx hb d_Md_move_155 rfl ?_
    refine lv_l2i hx hb d_Md_move_156 rfl ?_
    refine lv_ldc (v := (65535 : Int32)) hx hb hown k88 d_Md_move_157 ?_
    refine lv_iand hx hb d_Md_move_159 ?_
    refine lv_istore (lv' := [(4, .int (((((((S3 16).toInt64) <<< ((16 : Int32).toInt64 &&& 63)) ||| x2.toInt64) >>> (((M3 1 10) >>> ((12 : Int32) &&& 31)).toInt64 &&& 63)).toInt32) &&& (65535 : Int32))), (3, .int r3), (0, .ref (b 0)), (1, .int x1), (2, .int x2)]) hx hb d_Md_move_160 hl (by decide) rfl (fun ls hl => ?_)
    refine lv_aload_n hx hb d_Md_move_162 rfl (lv_at hl 2 rfl) ?_
    refine va_get (D := D) (ci := 7) (v := .int (S3 17)) (C := R_Md) (T := T_Md) (N := 31) hx hb hts iMd hown hK hP 0 (wM_at0 _ _ _ _) rfl 24 (by decide) k85 (fun _ h9 => h9) rfl d_Md_move_163 ?_
    refine lv_i2l hx hb d_Md_move_166 rfl ?_
    refine lv_bipush (v := (16 : Int32)) hx hb d_Md_move_167 (by decide) ?_
    refine lv_lshl hx hb d_Md_move_169 rfl ?_
    refine lv_iload_n hx hb d_Md_move_170 rfl (lv_at hl 1 rfl) ?_
    refine lv_i2l hx hb d_Md_move_171 rfl ?_
    refine lv_lor hx hb d_Md_move_172 ?_
    refine lv_aload_n hx hb d_Md_move_173 rfl (lv_at hl 2 rfl) ?_
    refine va_get (D := D) (ci := 7) (v := .ref (b 2)) (C := R_Md) (T := T_Md) (N := 31) hx hb hts iMd hown hK hP 0 (wM_at0 _ _ _ _) rfl 1 (by decide) k13 (fun _ h9 => h9) rfl d_Md_move_174 ?_
    refine lv_bipush (v := (11 : Int32)) hx hb d_Md_move_177 (by decide) ?_
    refine ialdK hx hb hK hP 2 0 (wM_at2 _ _ _ _) rfl 11 (by decide) (by unfold vp_in; decide) d_Md_move_179 ?_
    refine lv_lshr hx hb d_Md_move_180 rfl ?_
    refine lv_l2i hx hb d_Md_move_181 rfl ?_
    refine lv_ldc (v := (65535 : Int32)) hx hb hown k88 d_Md_move_182 ?_
    refine lv_iand hx hb d_Md_move_184 ?_
    refine lv_istore (lv' := [(5, .int (((((((S3 17).toInt64) <<< ((16 : Int32).toInt64 &&& 63)) ||| r3.toInt64) >>> ((M3 1 11).toInt64 &&& 63)).toInt32) &&& (65535 : Int32))), (4, .int (((((((S3 16).toInt64) <<< ((16 : Int32).toInt64 &&& 63)) ||| x2.toInt64) >>> (((M3 1 10) >>> ((12 : Int32) &&& 31)).toInt64 &&& 63)).toInt32) &&& (65535 : Int32))), (3, .int r3), (0, .ref (b 0)), (1, .int x1), (2, .int x2)]) hx hb d_Md_move_185 hl (by decide) rfl (fun ls hl => ?_)
    refine lv_aload_n hx hb d_Md_move_187 rfl (lv_at hl 3 rfl) ?_
    refine lv_iconst (v := (2 : Int32)) hx hb d_Md_move_188 (by decide) ?_
    obtain ⟨⟨r4, S4, M4⟩, hc4, h⟩ := sg_b h
    dsimp only at h
    refine cvi (As := [.int (2 : Int32)]) (rest := []) ⟨hx, hb, hml, hown, hts⟩ (c_Md_wordOf l D cA b S3 M3 (2 : Int32) _ hc4) ⟨callB_of 1 hts (tb_gi tb_cd_Md_wordOf) rfl rfl rfl (hts _ tb_in_Md) (hts _ tb_ml_Md_113) yd_Md_wordOf ⟨Nat.le_of_ble_eq_true rfl, Nat.le_of_ble_eq_true rfl⟩, hts _ tb_im_Md_wordOf, hts _ tb_se_Md_wordOf⟩ hZK hK hZ hP hD hS 0 (wM_at0 _ _ _ _) rfl rfl hl.1 rfl (Nat.le_of_ble_eq_true rfl) d_Md_move_189 (fun H locs hP hD hS => ?_)
    refine lv_istore (lv' := [(6, .int r4), (5, .int (((((((S3 17).toInt64) <<< ((16 : Int32).toInt64 &&& 63)) ||| r3.toInt64) >>> ((M3 1 11).toInt64 &&& 63)).toInt32) &&& (65535 : Int32))), (4, .int (((((((S3 16).toInt64) <<< ((16 : Int32).toInt64 &&& 63)) ||| x2.toInt64) >>> (((M3 1 10) >>> ((12 : Int32) &&& 31)).toInt64 &&& 63)).toInt32) &&& (65535 : Int32))), (3, .int r3), (0, .ref (b 0)), (1, .int x1), (2, .int x2)]) hx hb d_Md_move_192 hl (by decide) rfl (fun ls hl => ?_)
    refine lv_aload_n hx hb d_Md_move_194 rfl (lv_at hl 4 rfl) ?_
    refine lv_iload_n hx hb d_Md_move_195 rfl (lv_at hl 6 rfl) ?_
    refine puwM_16 (D := D) (x := x2) hx hb hts iMd hown hK hP hD hS k82 rfl rfl d_Md_move_196 (fun H locs hP hD hS => ?_)
    refine lv_aload_n hx hb d_Md_move_199 rfl (lv_at hl 4 rfl) ?_
    refine lv_iload_n hx hb d_Md_move_200 rfl (lv_at hl 3 rfl) ?_
    refine puwM_17 (D := D) (x := r3) hx hb hts iMd hown hK hP hD hS k85 rfl rfl d_Md_move_201 (fun H locs hP hD hS => ?_)
    refine lv_iconst (v := (0 : Int32)) hx hb d_Md_move_204 (by decide) ?_
    refine lv_istore (lv' := [(7, .int (0 : Int32)), (6, .int r4), (5, .int (((((((S3 17).toInt64) <<< ((16 : Int32).toInt64 &&& 63)) ||| r3.toInt64) >>> ((M3 1 11).toInt64 &&& 63)).toInt32) &&& (65535 : Int32))), (4, .int (((((((S3 16).toInt64) <<< ((16 : Int32).toInt64 &&& 63)) ||| x2.toInt64) >>> (((M3 1 10) >>> ((12 : Int32) &&& 31)).toInt64 &&& 63)).toInt32) &&& (65535 : Int32))), (3, .int r3), (0, .ref (b 0)), (1, .int x1), (2, .int x2)]) hx hb d_Md_move_205 hl (by decide) rfl (fun ls hl => ?_)
    refine lv_iconst (v := (0 : Int32)) hx hb d_Md_move_207 (by decide) ?_
    refine lv_istore (lv' := [(8, .int (0 : Int32)), (7, .int (0 : Int32)), (6, .int r4), (5, .int (((((((S3 17).toInt64) <<< ((16 : Int32).toInt64 &&& 63)) ||| r3.toInt64) >>> ((M3 1 11).toInt64 &&& 63)).toInt32) &&& (65535 : Int32))), (4, .int (((((((S3 16).toInt64) <<< ((16 : Int32).toInt64 &&& 63)) ||| x2.toInt64) >>> (((M3 1 10) >>> ((12 : Int32) &&& 31)).toInt64 &&& 63)).toInt32) &&& (65535 : Int32))), (3, .int r3), (0, .ref (b 0)), (1, .int x1), (2, .int x2)]) hx hb d_Md_move_208 hl (by decide) rfl (fun ls hl => ?_)
    exact b210 20 _ _ _ _ _ _ _ _ _ _ h _ _ _ (lv_sub hl [6, 7, 8, 5, 4, 3, 2, 1, 0] rfl) hP hD hS
  have b105 : ∀ (S : SS) (M : MM) (x1 : Int32) (x2 : Int32), f_Md_move_105 S M x1 x2 = some q → BK p l e rm_Md_move s m args below meth c Q D vCl (AM b) (wM cA b) 10 105 [(0, .ref (b 0)), (1, .int x1), (2, .int x2)] [] S M := by
    intro S M x1 x2 h H locs ls hl hP hD hS
    unfold f_Md_move_105 at h
    refine lv_aload_n hx hb d_Md_move_105 rfl (lv_at hl 0 rfl) ?_
    refine va_get (D := D) (ci := 7) (v := .int (S 13)) (C := R_Md) (T := T_Md) (N := 31) hx hb hts iMd hown hK hP 0 (wM_at0 _ _ _ _) rfl 20 (by decide) k73 (fun _ h9 => h9) rfl d_Md_move_106 ?_
    refine lv_aload_n hx hb d_Md_move_109 rfl (lv_at hl 0 rfl) ?_
    refine va_get (D := D) (ci := 7) (v := .int (S 11)) (C := R_Md) (T := T_Md) (N := 31) hx hb hts iMd hown hK hP 0 (wM_at0 _ _ _ _) rfl 18 (by decide) k67 (fun _ h9 => h9) rfl d_Md_move_110 ?_
    refine lv_iconst (v := (1 : Int32)) hx hb d_Md_move_113 (by decide) ?_
    refine lv_isub hx hb d_Md_move_114 ?_
    refine lv_icmp_ne (tgt := 128) hx hb d_Md_move_115 (by decide) (fun hc => ?_) (fun hc => ?_)
    · have h := sg_n hc h
      exact b128 _ _ _ _ h _ _ _ (lv_sub hl [0, 1, 2] rfl) hP hD hS
    · have h := sg_p hc h
      refine lv_iload_n hx hb d_Md_move_118 rfl (lv_at hl 2 rfl) ?_
      refine lv_aload_n hx hb d_Md_move_119 rfl (lv_at hl 0 rfl) ?_
      refine va_get (D := D) (ci := 7) (v := .ref (b 2)) (C := R_Md) (T := T_Md) (N := 31) hx hb hts iMd hown hK hP 0 (wM_at0 _ _ _ _) rfl 1 (by decide) k13 (fun _ h9 => h9) rfl d_Md_move_120 ?_
      refine lv_bipush (v := (21 : Int32)) hx hb d_Md_move_123 (by decide) ?_
      refine ialdK hx hb hK hP 2 0 (wM_at2 _ _ _ _) rfl 21 (by decide) (by unfold vp_in; decide) d_Md_move_125 ?_
      refine lv_iand hx hb d_Md_move_126 ?_
      refine lv_istore_n (lv' := [(2, .int (x2 &&& (M 1 21))), (0, .ref (b 0)), (1, .int x1)]) hx hb d_Md_move_127 rfl hl (by decide) rfl (fun ls hl => ?_)
      exact b128 _ _ _ _ h _ _ _ (lv_sub hl [1, 2, 0] rfl) hP hD hS
  have b82 : ∀ (S : SS) (M : MM) (x1 : Int32), f_Md_move_82 S M x1 = some q → BK p l e rm_Md_move s m args below meth c Q D vCl (AM b) (wM cA b) 10 82 [(0, .ref (b 0)), (1, .int x1)] [] S M := by
    intro S M x1 h H locs ls hl hP hD hS
    unfold f_Md_move_82 at h
    refine lv_aload_n hx hb d_Md_move_82 rfl (lv_at hl 0 rfl) ?_
    refine lv_iconst (v := (0 : Int32)) hx hb d_Md_move_83 (by decide) ?_
    obtain ⟨⟨r5, S5, M5⟩, hc5, h⟩ := sg_b h
    dsimp only at h
    refine cvi (As := [.int (0 : Int32)]) (rest := []) ⟨hx, hb, hml, hown, hts⟩ (c_Md_wordOf l D cA b S M (0 : Int32) _ hc5) ⟨callB_of 1 hts (tb_gi tb_cd_Md_wordOf) rfl rfl rfl (hts _ tb_in_Md) (hts _ tb_ml_Md_113) yd_Md_wordOf ⟨Nat.le_of_ble_eq_true rfl, Nat.le_of_ble_eq_true rfl⟩, hts _ tb_im_Md_wordOf, hts _ tb_se_Md_wordOf⟩ hZK hK hZ hP hD hS 0 (wM_at0 _ _ _ _) rfl rfl hl.1 rfl (Nat.le_of_ble_eq_true rfl) d_Md_move_84 (fun H locs hP hD hS => ?_)
    refine lv_istore_n (lv' := [(2, .int r5), (0, .ref (b 0)), (1, .int x1)]) hx hb d_Md_move_87 rfl hl (by decide) rfl (fun ls hl => ?_)
    refine lv_aload_n hx hb d_Md_move_88 rfl (lv_at hl 1 rfl) ?_
    refine va_get (D := D) (ci := 7) (v := .int (S5 13)) (C := R_Md) (T := T_Md) (N := 31) hx hb hts iMd hown hK hP 0 (wM_at0 _ _ _ _) rfl 20 (by decide) k73 (fun _ h9 => h9) rfl d_Md_move_89 ?_
    refine lv_if_ne (tgt := 105) hx hb d_Md_move_92 (by decide) (fun hc => ?_) (fun hc => ?_)
    · have h := sg_n hc h
      exact b105 _ _ _ _ h _ _ _ (lv_sub hl [1, 2, 0] rfl) hP hD hS
    · have h := sg_p hc h
      refine lv_iload_n hx hb d_Md_move_95 rfl (lv_at hl 0 rfl) ?_
      refine lv_aload_n hx hb d_Md_move_96 rfl (lv_at hl 1 rfl) ?_
      refine va_get (D := D) (ci := 7) (v := .ref (b 2)) (C := R_Md) (T := T_Md) (N := 31) hx hb hts iMd hown hK hP 0 (wM_at0 _ _ _ _) rfl 1 (by decide) k13 (fun _ h9 => h9) rfl d_Md_move_97 ?_
      refine lv_bipush (v := (20 : Int32)) hx hb d_Md_move_100 (by decide) ?_
      refine ialdK hx hb hK hP 2 0 (wM_at2 _ _ _ _) rfl 20 (by decide) (by unfold vp_in; decide) d_Md_move_102 ?_
      refine lv_iand hx hb d_Md_move_103 ?_
      refine lv_istore_n (lv' := [(2, .int (r5 &&& (M5 1 20))), (0, .ref (b 0)), (1, .int x1)]) hx hb d_Md_move_104 rfl hl (by decide) rfl (fun ls hl => ?_)
      exact b105 _ _ _ _ h _ _ _ (lv_sub hl [1, 2, 0] rfl) hP hD hS
  have b58 : ∀ (S : SS) (M : MM) (x1 : Int32), f_Md_move_58 S M x1 = some q → BK p l e rm_Md_move s m args below meth c Q D vCl (AM b) (wM cA b) 10 58 [(0, .ref (b 0)), (1, .int x1)] [] S M := by
    intro S M x1 h H locs ls hl hP hD hS
    unfold f_Md_move_58 at h
    refine lv_aload_n hx hb d_Md_move_58 rfl (lv_at hl 0 rfl) ?_
    refine lv_iload_n hx hb d_Md_move_59 rfl (lv_at hl 1 rfl) ?_
    refine lv_iconst (v := (1 : Int32)) hx hb d_Md_move_60 (by decide) ?_
    refine lv_iadd hx hb d_Md_move_61 ?_
    refine puwM_15 (D := D) (x := x1 + (1 : Int32)) hx hb hts iMd hown hK hP hD hS k79 rfl rfl d_Md_move_62 (fun H locs hP hD hS => ?_)
    refine lv_iload_n hx hb d_Md_move_65 rfl (lv_at hl 1 rfl) ?_
    refine lv_iconst (v := (4 : Int32)) hx hb d_Md_move_66 (by decide) ?_
    refine lv_icmp_ge (tgt := 82) hx hb d_Md_move_67 (by decide) (fun hc => ?_) (fun hc => ?_)
    · have h := sg_p hc h
      exact b82 _ _ _ h _ _ _ (lv_sub hl [0, 1] rfl) hP hD hS
    · have h := sg_n hc h
      refine lv_aload_n hx hb d_Md_move_70 rfl (lv_at hl 0 rfl) ?_
      refine lv_iload_n hx hb d_Md_move_71 rfl (lv_at hl 1 rfl) ?_
      refine lv_iconst (v := (1 : Int32)) hx hb d_Md_move_72 (by decide) ?_
      refine lv_iadd hx hb d_Md_move_73 ?_
      obtain ⟨⟨r6, S6, M6⟩, hc6, h⟩ := sg_b h
      dsimp only at h
      refine cvi (As := [.int (x1 + (1 : Int32))]) (rest := []) ⟨hx, hb, hml, hown, hts⟩ (c_Md_nextUsed l D cA b (upd S 15 (x1 + (1 : Int32))) M (x1 + (1 : Int32)) _ hc6) ⟨callB_of 1 hts (tb_gi tb_cd_Md_nextUsed) rfl rfl rfl (hts _ tb_in_Md) (hts _ tb_ml_Md_109) yd_Md_nextUsed ⟨Nat.le_of_ble_eq_true rfl, Nat.le_of_ble_eq_true rfl⟩, hts _ tb_im_Md_nextUsed, hts _ tb_se_Md_nextUsed⟩ hZK hK hZ hP hD hS 0 (wM_at0 _ _ _ _) rfl rfl hl.1 rfl (Nat.le_of_ble_eq_true rfl) d_Md_move_74 (fun H locs hP hD hS => ?_)
      refine lv_iconst (v := (4 : Int32)) hx hb d_Md_move_77 (by decide) ?_
      refine lv_icmp_ge (tgt := 82) hx hb d_Md_move_78 (by decide) (fun hc => ?_) (fun hc => ?_)
      · have h := sg_p hc h
        exact b82 _ _ _ h _ _ _ (lv_sub hl [0, 1] rfl) hP hD hS
      · have h := sg_n hc h
        exact ret _ _ _ _ _ _ _ h hP hD hS d_Md_move_81
  intro H locs ls hl hP hD hS
  have hl : lv_has ls 10 [(0, .ref (b 0))] := hl
  have h := h0
  unfold f_Md_move at h
  refine lv_aload_n hx hb d_Md_move_0 rfl (lv_at hl 0 rfl) ?_
  refine lv_aload_n hx hb d_Md_move_1 rfl (lv_at hl 0 rfl) ?_
  refine va_get (D := D) (ci := 7) (v := .int (S 15)) (C := R_Md) (T := T_Md) (N := 31) hx hb hts iMd hown hK hP 0 (wM_at0 _ _ _ _) rfl 22 (by decide) k79 (fun _ h9 => h9) rfl d_Md_move_2 ?_
  obtain ⟨⟨r7, S7, M7⟩, hc7, h⟩ := sg_b h
  dsimp only at h
  refine cvi (As := [.int (S 15)]) (rest := []) ⟨hx, hb, hml, hown, hts⟩ (c_Md_nextUsed l D cA b S M (S 15) _ hc7) ⟨callB_of 1 hts (tb_gi tb_cd_Md_nextUsed) rfl rfl rfl (hts _ tb_in_Md) (hts _ tb_ml_Md_109) yd_Md_nextUsed ⟨Nat.le_of_ble_eq_true rfl, Nat.le_of_ble_eq_true rfl⟩, hts _ tb_im_Md_nextUsed, hts _ tb_se_Md_nextUsed⟩ hZK hK hZ hP hD hS 0 (wM_at0 _ _ _ _) rfl rfl hl.1 rfl (Nat.le_of_ble_eq_true rfl) d_Md_move_5 (fun H locs hP hD hS => ?_)
  refine lv_istore_n (lv' := [(1, .int r7), (0, .ref (b 0))]) hx hb d_Md_move_8 rfl hl (by decide) rfl (fun ls hl => ?_)
  refine lv_iload_n hx hb d_Md_move_9 rfl (lv_at hl 0 rfl) ?_
  refine lv_iconst (v := (3 : Int32)) hx hb d_Md_move_10 (by decide) ?_
  refine lv_icmp_ge (tgt := 58) hx hb d_Md_move_11 (by decide) (fun hc => ?_) (fun hc => ?_)
  · have h := sg_p hc h
    exact b58 _ _ _ h _ _ _ (lv_sub hl [1, 0] rfl) hP hD hS
  · have h := sg_n hc h
    refine lv_aload_n hx hb d_Md_move_14 rfl (lv_at hl 1 rfl) ?_
    refine va_get (D := D) (ci := 7) (v := .ref (b 8)) (C := R_Md) (T := T_Md) (N := 31) hx hb hts iMd hown hK hP 0 (wM_at0 _ _ _ _) rfl 25 (by decide) k31 (fun _ h9 => h9) rfl d_Md_move_15 ?_
    refine lv_iload_n hx hb d_Md_move_18 rfl (lv_at hl 0 rfl) ?_
    refine lv_aload_n hx hb d_Md_move_19 rfl (lv_at hl 1 rfl) ?_
    refine va_get (D := D) (ci := 7) (v := .ref (b 1)) (C := R_Md) (T := T_Md) (N := 31) hx hb hts iMd hown hK hP 0 (wM_at0 _ _ _ _) rfl 0 (by decide) k7 (fun _ h9 => h9) rfl d_Md_move_20 ?_
    refine lv_aload_n hx hb d_Md_move_23 rfl (lv_at hl 1 rfl) ?_
    refine va_get (D := D) (ci := 7) (v := .ref (b 2)) (C := R_Md) (T := T_Md) (N := 31) hx hb hts iMd hown hK hP 0 (wM_at0 _ _ _ _) rfl 1 (by decide) k13 (fun _ h9 => h9) rfl d_Md_move_24 ?_
    refine lv_bipush (v := (12 : Int32)) hx hb d_Md_move_27 (by decide) ?_
    refine lv_iload_n hx hb d_Md_move_29 rfl (lv_at hl 0 rfl) ?_
    refine lv_iadd hx hb d_Md_move_30 ?_
    obtain ⟨hg8, h⟩ := sg_g h
    refine va_iald hx hb hK hP 2 0 (wM_at2 _ _ _ _) rfl hg8 d_Md_move_31 ?_
    obtain ⟨hg9, h⟩ := sg_g h
    refine va_iald hx hb hK hP 1 0 (wM_at1 _ _ _ _) rfl hg9 d_Md_move_32 ?_
    obtain ⟨hg10, h⟩ := sg_g h
    refine va_iast (x := M7 0 (M7 1 ((12 : Int32) + r7).toNatClampNeg).toNatClampNeg) hx hb hK hP hD hS 8 0 (wM_at8 _ _ _ _) rfl hg10 d_Md_move_33 (fun H locs hP hD hS => ?_)
    have hP := wM_set8 hP
    have hD := wM_dset8 hD
    refine lv_aload_n hx hb d_Md_move_34 rfl (lv_at hl 1 rfl) ?_
    refine va_get (D := D) (ci := 7) (v := .ref (b 2)) (C := R_Md) (T := T_Md) (N := 31) hx hb hts iMd hown hK hP 0 (wM_at0 _ _ _ _) rfl 1 (by decide) k13 (fun _ h9 => h9) rfl d_Md_move_35 ?_
    refine lv_bipush (v := (12 : Int32)) hx hb d_Md_move_38 (by decide) ?_
    refine lv_iload_n hx hb d_Md_move_40 rfl (lv_at hl 0 rfl) ?_
    refine lv_iadd hx hb d_Md_move_41 ?_
    refine lv_aload_n hx hb d_Md_move_42 rfl (lv_at hl 1 rfl) ?_
    refine va_get (D := D) (ci := 7) (v := .ref (b 2)) (C := R_Md) (T := T_Md) (N := 31) hx hb hts iMd hown hK hP 0 (wM_at0 _ _ _ _) rfl 1 (by decide) k13 (fun _ h9 => h9) rfl d_Md_move_43 ?_
    refine lv_bipush (v := (12 : Int32)) hx hb d_Md_move_46 (by decide) ?_
    refine lv_iload_n hx hb d_Md_move_48 rfl (lv_at hl 0 rfl) ?_
    refine lv_iadd hx hb d_Md_move_49 ?_
    obtain ⟨hg11, h⟩ := sg_g h
    refine va_iald hx hb hK hP 2 0 (wM_at2 _ _ _ _) rfl hg11 d_Md_move_50 ?_
    refine lv_iconst (v := (1 : Int32)) hx hb d_Md_move_51 (by decide) ?_
    refine lv_iadd hx hb d_Md_move_52 ?_
    refine lv_sipush (v := (255 : Int32)) hx hb d_Md_move_53 (by decide) ?_
    refine lv_iand hx hb d_Md_move_56 ?_
    obtain ⟨hg12, h⟩ := sg_g h
    refine va_iast (x := (((upM M7 7 (upd (M7 7) r7.toNatClampNeg (M7 0 (M7 1 ((12 : Int32) + r7).toNatClampNeg).toNatClampNeg))) 1 ((12 : Int32) + r7).toNatClampNeg) + (1 : Int32)) &&& (255 : Int32)) hx hb hK hP hD hS 2 0 (wM_at2 _ _ _ _) rfl hg12 d_Md_move_57 (fun H locs hP hD hS => ?_)
    have hP := wM_set2 hP
    have hD := wM_dset2 hD
    exact b58 _ _ _ h _ _ _ (lv_sub hl [1, 0] rfl) hP hD hS
