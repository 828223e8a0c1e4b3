/-! F functions and walks, by program (gen.py, mkparts.py) -/
/-! X12_goes -/
theorem dd_X12_goes_0 : decode Y_X12_goes.2.1 0 = .ok (.aload_n 0, 1) := by decide +kernel
theorem dd_X12_goes_1 : decode Y_X12_goes.2.1 1 = .ok (.getfield 166, 3) := by decide +kernel
theorem dd_X12_goes_4 : decode Y_X12_goes.2.1 4 = .ok (.aload_n 0, 1) := by decide +kernel
theorem dd_X12_goes_5 : decode Y_X12_goes.2.1 5 = .ok (.getfield 163, 3) := by decide +kernel
theorem dd_X12_goes_8 : decode Y_X12_goes.2.1 8 = .ok (.if_icmp .ge 42, 3) := by decide +kernel
theorem dd_X12_goes_11 : decode Y_X12_goes.2.1 11 = .ok (.aload_n 0, 1) := by decide +kernel
theorem dd_X12_goes_12 : decode Y_X12_goes.2.1 12 = .ok (.aload_n 0, 1) := by decide +kernel
theorem dd_X12_goes_13 : decode Y_X12_goes.2.1 13 = .ok (.getfield 166, 3) := by decide +kernel
theorem dd_X12_goes_16 : decode Y_X12_goes.2.1 16 = .ok (.invokevirtual 169, 3) := by decide +kernel
theorem dd_X12_goes_19 : decode Y_X12_goes.2.1 19 = .ok (.bipush 32, 2) := by decide +kernel
theorem dd_X12_goes_21 : decode Y_X12_goes.2.1 21 = .ok (.if_icmp .eq 16, 3) := by decide +kernel
theorem dd_X12_goes_24 : decode Y_X12_goes.2.1 24 = .ok (.aload_n 0, 1) := by decide +kernel
theorem dd_X12_goes_25 : decode Y_X12_goes.2.1 25 = .ok (.aload_n 0, 1) := by decide +kernel
theorem dd_X12_goes_26 : decode Y_X12_goes.2.1 26 = .ok (.getfield 166, 3) := by decide +kernel
theorem dd_X12_goes_29 : decode Y_X12_goes.2.1 29 = .ok (.invokevirtual 169, 3) := by decide +kernel
theorem dd_X12_goes_32 : decode Y_X12_goes.2.1 32 = .ok (.bipush 10, 2) := by decide +kernel
theorem dd_X12_goes_34 : decode Y_X12_goes.2.1 34 = .ok (.if_icmp .ne 16, 3) := by decide +kernel
theorem dd_X12_goes_37 : decode Y_X12_goes.2.1 37 = .ok (.aload_n 0, 1) := by decide +kernel
theorem dd_X12_goes_38 : decode Y_X12_goes.2.1 38 = .ok (.dup, 1) := by decide +kernel
theorem dd_X12_goes_39 : decode Y_X12_goes.2.1 39 = .ok (.getfield 166, 3) := by decide +kernel
theorem dd_X12_goes_42 : decode Y_X12_goes.2.1 42 = .ok (.iconst 1, 1) := by decide +kernel
theorem dd_X12_goes_43 : decode Y_X12_goes.2.1 43 = .ok (.iadd, 1) := by decide +kernel
theorem dd_X12_goes_44 : decode Y_X12_goes.2.1 44 = .ok (.putfield 166, 3) := by decide +kernel
theorem dd_X12_goes_47 : decode Y_X12_goes.2.1 47 = .ok (.goto (-47), 3) := by decide +kernel
theorem dd_X12_goes_50 : decode Y_X12_goes.2.1 50 = .ok (.aload_n 0, 1) := by decide +kernel
theorem dd_X12_goes_51 : decode Y_X12_goes.2.1 51 = .ok (.aload_n 0, 1) := by decide +kernel
theorem dd_X12_goes_52 : decode Y_X12_goes.2.1 52 = .ok (.getfield 166, 3) := by decide +kernel
theorem dd_X12_goes_55 : decode Y_X12_goes.2.1 55 = .ok (.putfield 173, 3) := by decide +kernel
theorem dd_X12_goes_58 : decode Y_X12_goes.2.1 58 = .ok (.aload_n 0, 1) := by decide +kernel
theorem dd_X12_goes_59 : decode Y_X12_goes.2.1 59 = .ok (.lconst 0, 1) := by decide +kernel
theorem dd_X12_goes_60 : decode Y_X12_goes.2.1 60 = .ok (.putfield 176, 3) := by decide +kernel
theorem dd_X12_goes_63 : decode Y_X12_goes.2.1 63 = .ok (.aload_n 0, 1) := by decide +kernel
theorem dd_X12_goes_64 : decode Y_X12_goes.2.1 64 = .ok (.iconst 0, 1) := by decide +kernel
theorem dd_X12_goes_65 : decode Y_X12_goes.2.1 65 = .ok (.putfield 180, 3) := by decide +kernel
theorem dd_X12_goes_68 : decode Y_X12_goes.2.1 68 = .ok (.aload_n 0, 1) := by decide +kernel
theorem dd_X12_goes_69 : decode Y_X12_goes.2.1 69 = .ok (.aload_n 0, 1) := by decide +kernel
theorem dd_X12_goes_70 : decode Y_X12_goes.2.1 70 = .ok (.getfield 166, 3) := by decide +kernel
theorem dd_X12_goes_73 : decode Y_X12_goes.2.1 73 = .ok (.invokevirtual 169, 3) := by decide +kernel
theorem dd_X12_goes_76 : decode Y_X12_goes.2.1 76 = .ok (.istore_n 1, 1) := by decide +kernel
theorem dd_X12_goes_77 : decode Y_X12_goes.2.1 77 = .ok (.aload_n 0, 1) := by decide +kernel
theorem dd_X12_goes_78 : decode Y_X12_goes.2.1 78 = .ok (.iload_n 1, 1) := by decide +kernel
theorem dd_X12_goes_79 : decode Y_X12_goes.2.1 79 = .ok (.putfield 183, 3) := by decide +kernel
theorem dd_X12_goes_82 : decode Y_X12_goes.2.1 82 = .ok (.aload_n 0, 1) := by decide +kernel
theorem dd_X12_goes_83 : decode Y_X12_goes.2.1 83 = .ok (.getfield 166, 3) := by decide +kernel
theorem dd_X12_goes_86 : decode Y_X12_goes.2.1 86 = .ok (.aload_n 0, 1) := by decide +kernel
theorem dd_X12_goes_87 : decode Y_X12_goes.2.1 87 = .ok (.getfield 163, 3) := by decide +kernel
theorem dd_X12_goes_90 : decode Y_X12_goes.2.1 90 = .ok (.if_icmp .lt 11, 3) := by decide +kernel
theorem dd_X12_goes_93 : decode Y_X12_goes.2.1 93 = .ok (.aload_n 0, 1) := by decide +kernel
theorem dd_X12_goes_94 : decode Y_X12_goes.2.1 94 = .ok (.iconst 0, 1) := by decide +kernel
theorem dd_X12_goes_95 : decode Y_X12_goes.2.1 95 = .ok (.putfield 186, 3) := by decide +kernel
theorem dd_X12_goes_98 : decode Y_X12_goes.2.1 98 = .ok (.goto 233, 3) := by decide +kernel
theorem dd_X12_goes_101 : decode Y_X12_goes.2.1 101 = .ok (.iload_n 1, 1) := by decide +kernel
theorem dd_X12_goes_102 : decode Y_X12_goes.2.1 102 = .ok (.invokestatic 189, 3) := by decide +kernel
theorem dd_X12_goes_105 : decode Y_X12_goes.2.1 105 = .ok (.ifCond .eq 75, 3) := by decide +kernel
theorem dd_X12_goes_108 : decode Y_X12_goes.2.1 108 = .ok (.aload_n 0, 1) := by decide +kernel
theorem dd_X12_goes_109 : decode Y_X12_goes.2.1 109 = .ok (.aload_n 0, 1) := by decide +kernel
theorem dd_X12_goes_110 : decode Y_X12_goes.2.1 110 = .ok (.getfield 166, 3) := by decide +kernel
theorem dd_X12_goes_113 : decode Y_X12_goes.2.1 113 = .ok (.invokevirtual 169, 3) := by decide +kernel
theorem dd_X12_goes_116 : decode Y_X12_goes.2.1 116 = .ok (.invokestatic 189, 3) := by decide +kernel
theorem dd_X12_goes_119 : decode Y_X12_goes.2.1 119 = .ok (.ifCond .eq 53, 3) := by decide +kernel
theorem dd_X12_goes_122 : decode Y_X12_goes.2.1 122 = .ok (.aload_n 0, 1) := by decide +kernel
theorem dd_X12_goes_123 : decode Y_X12_goes.2.1 123 = .ok (.getfield 166, 3) := by decide +kernel
theorem dd_X12_goes_126 : decode Y_X12_goes.2.1 126 = .ok (.aload_n 0, 1) := by decide +kernel
theorem dd_X12_goes_127 : decode Y_X12_goes.2.1 127 = .ok (.getfield 173, 3) := by decide +kernel
theorem dd_X12_goes_130 : decode Y_X12_goes.2.1 130 = .ok (.isub, 1) := by decide +kernel
theorem dd_X12_goes_131 : decode Y_X12_goes.2.1 131 = .ok (.bipush 6, 2) := by decide +kernel
theorem dd_X12_goes_133 : decode Y_X12_goes.2.1 133 = .ok (.if_icmp .ge 26, 3) := by decide +kernel
theorem dd_X12_goes_136 : decode Y_X12_goes.2.1 136 = .ok (.aload_n 0, 1) := by decide +kernel
theorem dd_X12_goes_137 : decode Y_X12_goes.2.1 137 = .ok (.aload_n 0, 1) := by decide +kernel
theorem dd_X12_goes_138 : decode Y_X12_goes.2.1 138 = .ok (.getfield 176, 3) := by decide +kernel
theorem dd_X12_goes_141 : decode Y_X12_goes.2.1 141 = .ok (.iconst 5, 1) := by decide +kernel
theorem dd_X12_goes_142 : decode Y_X12_goes.2.1 142 = .ok (.lshl, 1) := by decide +kernel
theorem dd_X12_goes_143 : decode Y_X12_goes.2.1 143 = .ok (.aload_n 0, 1) := by decide +kernel
theorem dd_X12_goes_144 : decode Y_X12_goes.2.1 144 = .ok (.aload_n 0, 1) := by decide +kernel
theorem dd_X12_goes_145 : decode Y_X12_goes.2.1 145 = .ok (.getfield 166, 3) := by decide +kernel
theorem dd_X12_goes_148 : decode Y_X12_goes.2.1 148 = .ok (.invokevirtual 169, 3) := by decide +kernel
theorem dd_X12_goes_151 : decode Y_X12_goes.2.1 151 = .ok (.bipush 96, 2) := by decide +kernel
theorem dd_X12_goes_153 : decode Y_X12_goes.2.1 153 = .ok (.isub, 1) := by decide +kernel
theorem dd_X12_goes_154 : decode Y_X12_goes.2.1 154 = .ok (.i2l, 1) := by decide +kernel
theorem dd_X12_goes_155 : decode Y_X12_goes.2.1 155 = .ok (.lor, 1) := by decide +kernel
theorem dd_X12_goes_156 : decode Y_X12_goes.2.1 156 = .ok (.putfield 176, 3) := by decide +kernel
theorem dd_X12_goes_159 : decode Y_X12_goes.2.1 159 = .ok (.aload_n 0, 1) := by decide +kernel
theorem dd_X12_goes_160 : decode Y_X12_goes.2.1 160 = .ok (.dup, 1) := by decide +kernel
theorem dd_X12_goes_161 : decode Y_X12_goes.2.1 161 = .ok (.getfield 166, 3) := by decide +kernel
theorem dd_X12_goes_164 : decode Y_X12_goes.2.1 164 = .ok (.iconst 1, 1) := by decide +kernel
theorem dd_X12_goes_165 : decode Y_X12_goes.2.1 165 = .ok (.iadd, 1) := by decide +kernel
theorem dd_X12_goes_166 : decode Y_X12_goes.2.1 166 = .ok (.putfield 166, 3) := by decide +kernel
theorem dd_X12_goes_169 : decode Y_X12_goes.2.1 169 = .ok (.goto (-61), 3) := by decide +kernel
theorem dd_X12_goes_172 : decode Y_X12_goes.2.1 172 = .ok (.aload_n 0, 1) := by decide +kernel
theorem dd_X12_goes_173 : decode Y_X12_goes.2.1 173 = .ok (.iconst 1, 1) := by decide +kernel
theorem dd_X12_goes_174 : decode Y_X12_goes.2.1 174 = .ok (.putfield 186, 3) := by decide +kernel
theorem dd_X12_goes_177 : decode Y_X12_goes.2.1 177 = .ok (.goto 154, 3) := by decide +kernel
theorem dd_X12_goes_180 : decode Y_X12_goes.2.1 180 = .ok (.iload_n 1, 1) := by decide +kernel
theorem dd_X12_goes_181 : decode Y_X12_goes.2.1 181 = .ok (.invokestatic 193, 3) := by decide +kernel
theorem dd_X12_goes_184 : decode Y_X12_goes.2.1 184 = .ok (.ifCond .eq 74, 3) := by decide +kernel
theorem dd_X12_goes_187 : decode Y_X12_goes.2.1 187 = .ok (.aload_n 0, 1) := by decide +kernel
theorem dd_X12_goes_188 : decode Y_X12_goes.2.1 188 = .ok (.aload_n 0, 1) := by decide +kernel
theorem dd_X12_goes_189 : decode Y_X12_goes.2.1 189 = .ok (.getfield 166, 3) := by decide +kernel
theorem dd_X12_goes_192 : decode Y_X12_goes.2.1 192 = .ok (.invokevirtual 169, 3) := by decide +kernel
theorem dd_X12_goes_195 : decode Y_X12_goes.2.1 195 = .ok (.invokestatic 193, 3) := by decide +kernel
theorem dd_X12_goes_198 : decode Y_X12_goes.2.1 198 = .ok (.ifCond .eq 52, 3) := by decide +kernel
theorem dd_X12_goes_201 : decode Y_X12_goes.2.1 201 = .ok (.aload_n 0, 1) := by decide +kernel
theorem dd_X12_goes_202 : decode Y_X12_goes.2.1 202 = .ok (.getfield 166, 3) := by decide +kernel
theorem dd_X12_goes_205 : decode Y_X12_goes.2.1 205 = .ok (.aload_n 0, 1) := by decide +kernel
theorem dd_X12_goes_206 : decode Y_X12_goes.2.1 206 = .ok (.getfield 173, 3) := by decide +kernel
theorem dd_X12_goes_209 : decode Y_X12_goes.2.1 209 = .ok (.isub, 1) := by decide +kernel
theorem dd_X12_goes_210 : decode Y_X12_goes.2.1 210 = .ok (.iconst 4, 1) := by decide +kernel
theorem dd_X12_goes_211 : decode Y_X12_goes.2.1 211 = .ok (.if_icmp .ge 26, 3) := by decide +kernel
theorem dd_X12_goes_214 : decode Y_X12_goes.2.1 214 = .ok (.aload_n 0, 1) := by decide +kernel
theorem dd_X12_goes_215 : decode Y_X12_goes.2.1 215 = .ok (.bipush 10, 2) := by decide +kernel
theorem dd_X12_goes_217 : decode Y_X12_goes.2.1 217 = .ok (.aload_n 0, 1) := by decide +kernel
theorem dd_X12_goes_218 : decode Y_X12_goes.2.1 218 = .ok (.getfield 180, 3) := by decide +kernel
theorem dd_X12_goes_221 : decode Y_X12_goes.2.1 221 = .ok (.imul, 1) := by decide +kernel
theorem dd_X12_goes_222 : decode Y_X12_goes.2.1 222 = .ok (.aload_n 0, 1) := by decide +kernel
theorem dd_X12_goes_223 : decode Y_X12_goes.2.1 223 = .ok (.aload_n 0, 1) := by decide +kernel
theorem dd_X12_goes_224 : decode Y_X12_goes.2.1 224 = .ok (.getfield 166, 3) := by decide +kernel
theorem dd_X12_goes_227 : decode Y_X12_goes.2.1 227 = .ok (.invokevirtual 169, 3) := by decide +kernel
theorem dd_X12_goes_230 : decode Y_X12_goes.2.1 230 = .ok (.iadd, 1) := by decide +kernel
theorem dd_X12_goes_231 : decode Y_X12_goes.2.1 231 = .ok (.bipush 48, 2) := by decide +kernel
theorem dd_X12_goes_233 : decode Y_X12_goes.2.1 233 = .ok (.isub, 1) := by decide +kernel
theorem dd_X12_goes_234 : decode Y_X12_goes.2.1 234 = .ok (.putfield 180, 3) := by decide +kernel
theorem dd_X12_goes_237 : decode Y_X12_goes.2.1 237 = .ok (.aload_n 0, 1) := by decide +kernel
theorem dd_X12_goes_238 : decode Y_X12_goes.2.1 238 = .ok (.dup, 1) := by decide +kernel
theorem dd_X12_goes_239 : decode Y_X12_goes.2.1 239 = .ok (.getfield 166, 3) := by decide +kernel
theorem dd_X12_goes_242 : decode Y_X12_goes.2.1 242 = .ok (.iconst 1, 1) := by decide +kernel
theorem dd_X12_goes_243 : decode Y_X12_goes.2.1 243 = .ok (.iadd, 1) := by decide +kernel
theorem dd_X12_goes_244 : decode Y_X12_goes.2.1 244 = .ok (.putfield 166, 3) := by decide +kernel
theorem dd_X12_goes_247 : decode Y_X12_goes.2.1 247 = .ok (.goto (-60), 3) := by decide +kernel
theorem dd_X12_goes_250 : decode Y_X12_goes.2.1 250 = .ok (.aload_n 0, 1) := by decide +kernel
theorem dd_X12_goes_251 : decode Y_X12_goes.2.1 251 = .ok (.iconst 2, 1) := by decide +kernel
theorem dd_X12_goes_252 : decode Y_X12_goes.2.1 252 = .ok (.putfield 186, 3) := by decide +kernel
theorem dd_X12_goes_255 : decode Y_X12_goes.2.1 255 = .ok (.goto 76, 3) := by decide +kernel
theorem dd_X12_goes_258 : decode Y_X12_goes.2.1 258 = .ok (.aload_n 0, 1) := by decide +kernel
theorem dd_X12_goes_259 : decode Y_X12_goes.2.1 259 = .ok (.dup, 1) := by decide +kernel
theorem dd_X12_goes_260 : decode Y_X12_goes.2.1 260 = .ok (.getfield 166, 3) := by decide +kernel
theorem dd_X12_goes_263 : decode Y_X12_goes.2.1 263 = .ok (.iconst 1, 1) := by decide +kernel
theorem dd_X12_goes_264 : decode Y_X12_goes.2.1 264 = .ok (.iadd, 1) := by decide +kernel
theorem dd_X12_goes_265 : decode Y_X12_goes.2.1 265 = .ok (.putfield 166, 3) := by decide +kernel
theorem dd_X12_goes_268 : decode Y_X12_goes.2.1 268 = .ok (.aload_n 0, 1) := by decide +kernel
theorem dd_X12_goes_269 : decode Y_X12_goes.2.1 269 = .ok (.iload_n 1, 1) := by decide +kernel
theorem dd_X12_goes_270 : decode Y_X12_goes.2.1 270 = .ok (.bipush 59, 2) := by decide +kernel
theorem dd_X12_goes_272 : decode Y_X12_goes.2.1 272 = .ok (.if_icmp .eq 51, 3) := by decide +kernel
theorem dd_X12_goes_275 : decode Y_X12_goes.2.1 275 = .ok (.iload_n 1, 1) := by decide +kernel
theorem dd_X12_goes_276 : decode Y_X12_goes.2.1 276 = .ok (.bipush 40, 2) := by decide +kernel
theorem dd_X12_goes_278 : decode Y_X12_goes.2.1 278 = .ok (.if_icmp .eq 45, 3) := by decide +kernel
theorem dd_X12_goes_281 : decode Y_X12_goes.2.1 281 = .ok (.iload_n 1, 1) := by decide +kernel
theorem dd_X12_goes_282 : decode Y_X12_goes.2.1 282 = .ok (.bipush 41, 2) := by decide +kernel
theorem dd_X12_goes_284 : decode Y_X12_goes.2.1 284 = .ok (.if_icmp .eq 39, 3) := by decide +kernel
theorem dd_X12_goes_287 : decode Y_X12_goes.2.1 287 = .ok (.iload_n 1, 1) := by decide +kernel
theorem dd_X12_goes_288 : decode Y_X12_goes.2.1 288 = .ok (.bipush 43, 2) := by decide +kernel
theorem dd_X12_goes_290 : decode Y_X12_goes.2.1 290 = .ok (.if_icmp .eq 33, 3) := by decide +kernel
theorem dd_X12_goes_293 : decode Y_X12_goes.2.1 293 = .ok (.iload_n 1, 1) := by decide +kernel
theorem dd_X12_goes_294 : decode Y_X12_goes.2.1 294 = .ok (.bipush 45, 2) := by decide +kernel
theorem dd_X12_goes_296 : decode Y_X12_goes.2.1 296 = .ok (.if_icmp .eq 27, 3) := by decide +kernel
theorem dd_X12_goes_299 : decode Y_X12_goes.2.1 299 = .ok (.iload_n 1, 1) := by decide +kernel
theorem dd_X12_goes_300 : decode Y_X12_goes.2.1 300 = .ok (.bipush 42, 2) := by decide +kernel
theorem dd_X12_goes_302 : decode Y_X12_goes.2.1 302 = .ok (.if_icmp .eq 21, 3) := by decide +kernel
theorem dd_X12_goes_305 : decode Y_X12_goes.2.1 305 = .ok (.iload_n 1, 1) := by decide +kernel
theorem dd_X12_goes_306 : decode Y_X12_goes.2.1 306 = .ok (.bipush 47, 2) := by decide +kernel
theorem dd_X12_goes_308 : decode Y_X12_goes.2.1 308 = .ok (.if_icmp .eq 15, 3) := by decide +kernel
theorem dd_X12_goes_311 : decode Y_X12_goes.2.1 311 = .ok (.iload_n 1, 1) := by decide +kernel
theorem dd_X12_goes_312 : decode Y_X12_goes.2.1 312 = .ok (.bipush 60, 2) := by decide +kernel
theorem dd_X12_goes_314 : decode Y_X12_goes.2.1 314 = .ok (.if_icmp .eq 9, 3) := by decide +kernel
theorem dd_X12_goes_317 : decode Y_X12_goes.2.1 317 = .ok (.iload_n 1, 1) := by decide +kernel
theorem dd_X12_goes_318 : decode Y_X12_goes.2.1 318 = .ok (.bipush 61, 2) := by decide +kernel
theorem dd_X12_goes_320 : decode Y_X12_goes.2.1 320 = .ok (.if_icmp .ne 7, 3) := by decide +kernel
theorem dd_X12_goes_323 : decode Y_X12_goes.2.1 323 = .ok (.iconst 3, 1) := by decide +kernel
theorem dd_X12_goes_324 : decode Y_X12_goes.2.1 324 = .ok (.goto 4, 3) := by decide +kernel
theorem dd_X12_goes_327 : decode Y_X12_goes.2.1 327 = .ok (.iconst 4, 1) := by decide +kernel
theorem dd_X12_goes_328 : decode Y_X12_goes.2.1 328 = .ok (.putfield 186, 3) := by decide +kernel
theorem dd_X12_goes_331 : decode Y_X12_goes.2.1 331 = .ok (.aload_n 0, 1) := by decide +kernel
theorem dd_X12_goes_332 : decode Y_X12_goes.2.1 332 = .ok (.aload_n 0, 1) := by decide +kernel
theorem dd_X12_goes_333 : decode Y_X12_goes.2.1 333 = .ok (.getfield 166, 3) := by decide +kernel
theorem dd_X12_goes_336 : decode Y_X12_goes.2.1 336 = .ok (.aload_n 0, 1) := by decide +kernel
theorem dd_X12_goes_337 : decode Y_X12_goes.2.1 337 = .ok (.getfield 173, 3) := by decide +kernel
theorem dd_X12_goes_340 : decode Y_X12_goes.2.1 340 = .ok (.isub, 1) := by decide +kernel
theorem dd_X12_goes_341 : decode Y_X12_goes.2.1 341 = .ok (.putfield 196, 3) := by decide +kernel
theorem dd_X12_goes_344 : decode Y_X12_goes.2.1 344 = .ok (.return_, 1) := by decide +kernel
def F_X12_goes_L0 (x0 : Nat) (K50 : zM → zO) : Nat → zM → zO
  | 0, _ => none
  | n + 1, M => zit ((M x0 19) ≤ (M x0 20)) (K50 M) (zbI (F_X12_byteAt x0 (M x0 20) M) (fun r1 M1 => zjo (fun  (M3 : zM) => zst (zup M3 x0 20 ((M3 x0 20) + 1)) (fun M4 => F_X12_goes_L0 x0 K50 n M4)) (fun (k1 : zM → zO) => zit (r1 = 32) (k1 M1) (zbI (F_X12_byteAt x0 (M1 x0 20) M1) (fun r2 M2 => zit (r2 = 10) (k1 M2) (K50 M2))))))
def F_X12_goes_L187 (x0 : Nat) (K250 : zM → zO) : Nat → zM → zO
  | 0, _ => none
  | n + 1, M => zbI (F_X12_byteAt x0 (M x0 20) M) (fun r6 M17 => zbI (F_X12_isDigit r6 M17) (fun r7 M18 => zit (r7 = 0) (K250 M18) (zjo (fun  (M21 : zM) => zst (zup M21 x0 20 ((M21 x0 20) + 1)) (fun M22 => F_X12_goes_L187 x0 K250 n M22)) (fun (k5 : zM → zO) => zit (4 ≤ ((M18 x0 20) - (M18 x0 22))) (k5 M18) (zbI (F_X12_byteAt x0 (M18 x0 20) M18) (fun r8 M19 => zst (zup M19 x0 24 (((10 * (M18 x0 24)) + r8) - 48)) (fun M20 => k5 M20)))))))
def F_X12_goes_L108 (x0 : Nat) (K172 : zM → zO) : Nat → zM → zO
  | 0, _ => none
  | n + 1, M => zbI (F_X12_byteAt x0 (M x0 20) M) (fun r9 M25 => zbI (F_X12_isLetter r9 M25) (fun r10 M26 => zit (r10 = 0) (K172 M26) (zjo (fun  (M29 : zM) => zst (zup M29 x0 20 ((M29 x0 20) + 1)) (fun M30 => F_X12_goes_L108 x0 K172 n M30)) (fun (k6 : zM → zO) => zit (6 ≤ ((M26 x0 20) - (M26 x0 22))) (k6 M26) (zbI (F_X12_byteAt x0 (M26 x0 20) M26) (fun r11 M27 => zst (zupL M27 x0 26 (((zgL M26 x0 26) <<< ((5 : Int32).toInt64 &&& 63)) ||| ((r11 - 96).toInt64))) (fun M28 => k6 M28)))))))
def F_X12_goes (t : Nat) (M : zM) : zO := F_X12_goes_L0 t (fun  (M5 : zM) => zst (zup M5 t 22 (M5 t 20)) (fun M6 => zst (zupL M6 t 26 0) (fun M7 => zst (zup M7 t 24 0) (fun M8 => zbI (F_X12_byteAt t (M8 t 20) M8) (fun r3 M9 => zst (zup M9 t 25 r3) (fun M10 => zjo (fun  (M34 : zM) => zst (zup M34 t 23 ((M34 t 20) - (M34 t 22))) (fun M35 => zV M35)) (fun (k2 : zM → zO) => zit ((M10 t 20) < (M10 t 19)) (zbI (F_X12_isLetter r3 M10) (fun r4 M11 => zit (r4 = 0) (zbI (F_X12_isDigit r3 M11) (fun r5 M12 => zit (r5 = 0) (zst (zup M12 t 20 ((M12 t 20) + 1)) (fun M13 => zjo (fun (w1 : Int32) (M15 : zM) => zst (zup M15 t 21 w1) (fun M16 => k2 M16)) (fun (k3 : Int32 → zM → zO) => zjo (fun  (M14 : zM) => k3 3 M14) (fun (k4 : zM → zO) => zit (r3 = 59) (k4 M13) (zit (r3 = 40) (k4 M13) (zit (r3 = 41) (k4 M13) (zit (r3 = 43) (k4 M13) (zit (r3 = 45) (k4 M13) (zit (r3 = 42) (k4 M13) (zit (r3 = 47) (k4 M13) (zit (r3 = 60) (k4 M13) (zit (r3 = 61) (k4 M13) (k3 4 M13))))))))))))) (F_X12_goes_L187 t (fun  (M23 : zM) => zst (zup M23 t 21 2) (fun M24 => k2 M24)) zN M12))) (F_X12_goes_L108 t (fun  (M31 : zM) => zst (zup M31 t 21 1) (fun M32 => k2 M32)) zN M11))) (zst (zup M10 t 21 0) (fun M33 => k2 M33))))))))) zN M
set_option maxHeartbeats 1000000 in
set_option maxRecDepth 20000 in
theorem ct_X12_goes_L0 (l : Launch) (hl : l.stackTraces = false) (G : zG) (x0 : Nat) (hx0 : zsh x0 = 12) (K50 : zM → zO) (hK50 : ∀  (M : zM), zEv l G Y_X12_goes 2 0 50 [(0, .ref (G.2.1 + x0))] [] M (K50 M)) : ∀ (n : Nat)  (M : zM), zEv l G Y_X12_goes 2 0 0 [(0, .ref (G.2.1 + x0))] [] M (F_X12_goes_L0 x0 K50 n M) := by
  intro n
  induction n with
  | zero => intro M; exact ev_none
  | succ n ih =>
    intro M
    show zEv l G Y_X12_goes 2 0 0 [(0, .ref (G.2.1 + x0))] [] M (zit ((M x0 19) ≤ (M x0 20)) (K50 M) (zbI (F_X12_byteAt x0 (M x0 20) M) (fun r1 M1 => zjo (fun  (M3 : zM) => zst (zup M3 x0 20 ((M3 x0 20) + 1)) (fun M4 => F_X12_goes_L0 x0 K50 n M4)) (fun (k1 : zM → zO) => zit (r1 = 32) (k1 M1) (zbI (F_X12_byteAt x0 (M1 x0 20) M1) (fun r2 M2 => zit (r2 = 10) (k1 M2) (K50 M2)))))))
    refine ev_aload_n dd_X12_goes_0 0 rfl ?_
    refine ev_getI gf_RX12_166 dd_X12_goes_1 hx0 (by decide) ?_
    refine ev_aload_n dd_X12_goes_4 0 rfl ?_
    refine ev_getI gf_RX12_163 dd_X12_goes_5 hx0 (by decide) ?_
    refine ev_icmp_ge 50 dd_X12_goes_8 (by decide) ?_ ?_
    · exact hK50 _
    · refine ev_aload_n dd_X12_goes_11 0 rfl ?_
      refine ev_aload_n dd_X12_goes_12 0 rfl ?_
      refine ev_getI gf_RX12_166 dd_X12_goes_13 hx0 (by decide) ?_
      refine ev_callVI (As := [.int (M x0 20)]) cl_RX12_169 (ct_X12_byteAt l hl G x0 hx0 (M x0 20) M) dd_X12_goes_16 hx0 (by decide) (Nat.le_of_ble_eq_true rfl) (Nat.le_of_ble_eq_true rfl) rfl rfl (fun r1 M1 => ?_)
      refine ev_bipush (v := 32) dd_X12_goes_19 (by decide) ?_
      refine ev_jo (fun (k1 : zM → zO) => ∀  (M3 : zM), zEv l G Y_X12_goes 2 0 37 [(0, .ref (G.2.1 + x0))] [] M3 (k1 M3)) ?_ (fun k1 hk1 => ?_)
      · intro M3
        refine ev_aload_n dd_X12_goes_37 0 rfl ?_
        refine ev_dup dd_X12_goes_38 rfl ?_
        refine ev_getI gf_RX12_166 dd_X12_goes_39 hx0 (by decide) ?_
        refine ev_iconst (v := 1) dd_X12_goes_42 (by decide) ?_
        refine ev_iadd dd_X12_goes_43 ?_
        refine ev_putI gw_RX12_166 dd_X12_goes_44 hx0 (by decide) ?_
        refine ev_st (fun M4 => ?_)
        refine ev_goto 0 dd_X12_goes_47 (by decide) ?_
        exact ih _
      · refine ev_icmp_eq 37 dd_X12_goes_21 (by decide) ?_ ?_
        · exact hk1 _
        · refine ev_aload_n dd_X12_goes_24 0 rfl ?_
          refine ev_aload_n dd_X12_goes_25 0 rfl ?_
          refine ev_getI gf_RX12_166 dd_X12_goes_26 hx0 (by decide) ?_
          refine ev_callVI (As := [.int (M1 x0 20)]) cl_RX12_169 (ct_X12_byteAt l hl G x0 hx0 (M1 x0 20) M1) dd_X12_goes_29 hx0 (by decide) (Nat.le_of_ble_eq_true rfl) (Nat.le_of_ble_eq_true rfl) rfl rfl (fun r2 M2 => ?_)
          refine ev_bipush (v := 10) dd_X12_goes_32 (by decide) ?_
          refine ev_icmp_ne 50 dd_X12_goes_34 (by decide) ?_ ?_
          · exact hK50 _
          · exact hk1 _
set_option maxHeartbeats 1000000 in
set_option maxRecDepth 20000 in
theorem ct_X12_goes_L187 (l : Launch) (hl : l.stackTraces = false) (G : zG) (x0 : Nat) (hx0 : zsh x0 = 12) (K250 : zM → zO) (hK250 : ∀  (M : zM), zEv l G Y_X12_goes 2 0 250 [(0, .ref (G.2.1 + x0))] [] M (K250 M)) : ∀ (n : Nat)  (M : zM), zEv l G Y_X12_goes 2 0 187 [(0, .ref (G.2.1 + x0))] [] M (F_X12_goes_L187 x0 K250 n M) := by
  intro n
  induction n with
  | zero => intro M; exact ev_none
  | succ n ih =>
    intro M
    show zEv l G Y_X12_goes 2 0 187 [(0, .ref (G.2.1 + x0))] [] M (zbI (F_X12_byteAt x0 (M x0 20) M) (fun r6 M17 => zbI (F_X12_isDigit r6 M17) (fun r7 M18 => zit (r7 = 0) (K250 M18) (zjo (fun  (M21 : zM) => zst (zup M21 x0 20 ((M21 x0 20) + 1)) (fun M22 => F_X12_goes_L187 x0 K250 n M22)) (fun (k5 : zM → zO) => zit (4 ≤ ((M18 x0 20) - (M18 x0 22))) (k5 M18) (zbI (F_X12_byteAt x0 (M18 x0 20) M18) (fun r8 M19 => zst (zup M19 x0 24 (((10 * (M18 x0 24)) + r8) - 48)) (fun M20 => k5 M20))))))))
    refine ev_aload_n dd_X12_goes_187 0 rfl ?_
    refine ev_aload_n dd_X12_goes_188 0 rfl ?_
    refine ev_getI gf_RX12_166 dd_X12_goes_189 hx0 (by decide) ?_
    refine ev_callVI (As := [.int (M x0 20)]) cl_RX12_169 (ct_X12_byteAt l hl G x0 hx0 (M x0 20) M) dd_X12_goes_192 hx0 (by decide) (Nat.le_of_ble_eq_true rfl) (Nat.le_of_ble_eq_true rfl) rfl rfl (fun r6 M17 => ?_)
    refine ev_callSI (As := [.int r6]) cl_RX12_193 (ct_X12_isDigit l hl G r6 M17) dd_X12_goes_195 (by decide) (Nat.le_of_ble_eq_true rfl) (Nat.le_of_ble_eq_true rfl) rfl rfl (fun r7 M18 => ?_)
    refine ev_if_eq 250 dd_X12_goes_198 (by decide) ?_ ?_
    · exact hK250 _
    · refine ev_aload_n dd_X12_goes_201 0 rfl ?_
      refine ev_getI gf_RX12_166 dd_X12_goes_202 hx0 (by decide) ?_
      refine ev_aload_n dd_X12_goes_205 0 rfl ?_
      refine ev_getI gf_RX12_173 dd_X12_goes_206 hx0 (by decide) ?_
      refine ev_isub dd_X12_goes_209 ?_
      refine ev_iconst (v := 4) dd_X12_goes_210 (by decide) ?_
      refine ev_jo (fun (k5 : zM → zO) => ∀  (M21 : zM), zEv l G Y_X12_goes 2 0 237 [(0, .ref (G.2.1 + x0))] [] M21 (k5 M21)) ?_ (fun k5 hk5 => ?_)
      · intro M21
        refine ev_aload_n dd_X12_goes_237 0 rfl ?_
        refine ev_dup dd_X12_goes_238 rfl ?_
        refine ev_getI gf_RX12_166 dd_X12_goes_239 hx0 (by decide) ?_
        refine ev_iconst (v := 1) dd_X12_goes_242 (by decide) ?_
        refine ev_iadd dd_X12_goes_243 ?_
        refine ev_putI gw_RX12_166 dd_X12_goes_244 hx0 (by decide) ?_
        refine ev_st (fun M22 => ?_)
        refine ev_goto 187 dd_X12_goes_247 (by decide) ?_
        exact ih _
      · refine ev_icmp_ge 237 dd_X12_goes_211 (by decide) ?_ ?_
        · exact hk5 _
        · refine ev_aload_n dd_X12_goes_214 0 rfl ?_
          refine ev_bipush (v := 10) dd_X12_goes_215 (by decide) ?_
          refine ev_aload_n dd_X12_goes_217 0 rfl ?_
          refine ev_getI gf_RX12_180 dd_X12_goes_218 hx0 (by decide) ?_
          refine ev_imul dd_X12_goes_221 ?_
          refine ev_aload_n dd_X12_goes_222 0 rfl ?_
          refine ev_aload_n dd_X12_goes_223 0 rfl ?_
          refine ev_getI gf_RX12_166 dd_X12_goes_224 hx0 (by decide) ?_
          refine ev_callVI (As := [.int (M18 x0 20)]) cl_RX12_169 (ct_X12_byteAt l hl G x0 hx0 (M18 x0 20) M18) dd_X12_goes_227 hx0 (by decide) (Nat.le_of_ble_eq_true rfl) (Nat.le_of_ble_eq_true rfl) rfl rfl (fun r8 M19 => ?_)
          refine ev_iadd dd_X12_goes_230 ?_
          refine ev_bipush (v := 48) dd_X12_goes_231 (by decide) ?_
          refine ev_isub dd_X12_goes_233 ?_
          refine ev_putI gw_RX12_180 dd_X12_goes_234 hx0 (by decide) ?_
          refine ev_st (fun M20 => ?_)
          exact hk5 _
set_option maxHeartbeats 1000000 in
set_option maxRecDepth 20000 in
theorem ct_X12_goes_L108 (l : Launch) (hl : l.stackTraces = false) (G : zG) (x0 : Nat) (hx0 : zsh x0 = 12) (K172 : zM → zO) (hK172 : ∀  (M : zM), zEv l G Y_X12_goes 2 0 172 [(0, .ref (G.2.1 + x0))] [] M (K172 M)) : ∀ (n : Nat)  (M : zM), zEv l G Y_X12_goes 2 0 108 [(0, .ref (G.2.1 + x0))] [] M (F_X12_goes_L108 x0 K172 n M) := by
  intro n
  induction n with
  | zero => intro M; exact ev_none
  | succ n ih =>
    intro M
    show zEv l G Y_X12_goes 2 0 108 [(0, .ref (G.2.1 + x0))] [] M (zbI (F_X12_byteAt x0 (M x0 20) M) (fun r9 M25 => zbI (F_X12_isLetter r9 M25) (fun r10 M26 => zit (r10 = 0) (K172 M26) (zjo (fun  (M29 : zM) => zst (zup M29 x0 20 ((M29 x0 20) + 1)) (fun M30 => F_X12_goes_L108 x0 K172 n M30)) (fun (k6 : zM → zO) => zit (6 ≤ ((M26 x0 20) - (M26 x0 22))) (k6 M26) (zbI (F_X12_byteAt x0 (M26 x0 20) M26) (fun r11 M27 => zst (zupL M27 x0 26 (((zgL M26 x0 26) <<< ((5 : Int32).toInt64 &&& 63)) ||| ((r11 - 96).toInt64))) (fun M28 => k6 M28))))))))
    refine ev_aload_n dd_X12_goes_108 0 rfl ?_
    refine ev_aload_n dd_X12_goes_109 0 rfl ?_
    refine ev_getI gf_RX12_166 dd_X12_goes_110 hx0 (by decide) ?_
    refine ev_callVI (As := [.int (M x0 20)]) cl_RX12_169 (ct_X12_byteAt l hl G x0 hx0 (M x0 20) M) dd_X12_goes_113 hx0 (by decide) (Nat.le_of_ble_eq_true rfl) (Nat.le_of_ble_eq_true rfl) rfl rfl (fun r9 M25 => ?_)
    refine ev_callSI (As := [.int r9]) cl_RX12_189 (ct_X12_isLetter l hl G r9 M25) dd_X12_goes_116 (by decide) (Nat.le_of_ble_eq_true rfl) (Nat.le_of_ble_eq_true rfl) rfl rfl (fun r10 M26 => ?_)
    refine ev_if_eq 172 dd_X12_goes_119 (by decide) ?_ ?_
    · exact hK172 _
    · refine ev_aload_n dd_X12_goes_122 0 rfl ?_
      refine ev_getI gf_RX12_166 dd_X12_goes_123 hx0 (by decide) ?_
      refine ev_aload_n dd_X12_goes_126 0 rfl ?_
      refine ev_getI gf_RX12_173 dd_X12_goes_127 hx0 (by decide) ?_
      refine ev_isub dd_X12_goes_130 ?_
      refine ev_bipush (v := 6) dd_X12_goes_131 (by decide) ?_
      refine ev_jo (fun (k6 : zM → zO) => ∀  (M29 : zM), zEv l G Y_X12_goes 2 0 159 [(0, .ref (G.2.1 + x0))] [] M29 (k6 M29)) ?_ (fun k6 hk6 => ?_)
      · intro M29
        refine ev_aload_n dd_X12_goes_159 0 rfl ?_
        refine ev_dup dd_X12_goes_160 rfl ?_
        refine ev_getI gf_RX12_166 dd_X12_goes_161 hx0 (by decide) ?_
        refine ev_iconst (v := 1) dd_X12_goes_164 (by decide) ?_
        refine ev_iadd dd_X12_goes_165 ?_
        refine ev_putI gw_RX12_166 dd_X12_goes_166 hx0 (by decide) ?_
        refine ev_st (fun M30 => ?_)
        refine ev_goto 108 dd_X12_goes_169 (by decide) ?_
        exact ih _
      · refine ev_icmp_ge 159 dd_X12_goes_133 (by decide) ?_ ?_
        · exact hk6 _
        · refine ev_aload_n dd_X12_goes_136 0 rfl ?_
          refine ev_aload_n dd_X12_goes_137 0 rfl ?_
          refine ev_getL gf_RX12_176 dd_X12_goes_138 hx0 (by decide) ?_
          refine ev_iconst (v := 5) dd_X12_goes_141 (by decide) ?_
          refine ev_lshl dd_X12_goes_142 ?_
          refine ev_aload_n dd_X12_goes_143 0 rfl ?_
          refine ev_aload_n dd_X12_goes_144 0 rfl ?_
          refine ev_getI gf_RX12_166 dd_X12_goes_145 hx0 (by decide) ?_
          refine ev_callVI (As := [.int (M26 x0 20)]) cl_RX12_169 (ct_X12_byteAt l hl G x0 hx0 (M26 x0 20) M26) dd_X12_goes_148 hx0 (by decide) (Nat.le_of_ble_eq_true rfl) (Nat.le_of_ble_eq_true rfl) rfl rfl (fun r11 M27 => ?_)
          refine ev_bipush (v := 96) dd_X12_goes_151 (by decide) ?_
          refine ev_isub dd_X12_goes_153 ?_
          refine ev_i2l dd_X12_goes_154 ?_
          refine ev_lor dd_X12_goes_155 ?_
          refine ev_putL gw_RX12_176 dd_X12_goes_156 hx0 (by decide) ?_
          refine ev_st (fun M28 => ?_)
          exact hk6 _
set_option maxHeartbeats 1000000 in
set_option maxRecDepth 20000 in
theorem ct_X12_goes (l : Launch) (hl : l.stackTraces = false) (G : zG) (t : Nat) (ht : zsh t = 12) (M : zM) : zMt l G Y_X12_goes 2 [.ref (G.2.1 + t)] M (F_X12_goes t M) := by
  refine zMt_of (by decide +kernel) (Nat.le_of_ble_eq_true rfl) ?_
  show zEv l G Y_X12_goes 2 0 0 [(0, .ref (G.2.1 + t))] [] M (F_X12_goes_L0 t (fun  (M5 : zM) => zst (zup M5 t 22 (M5 t 20)) (fun M6 => zst (zupL M6 t 26 0) (fun M7 => zst (zup M7 t 24 0) (fun M8 => zbI (F_X12_byteAt t (M8 t 20) M8) (fun r3 M9 => zst (zup M9 t 25 r3) (fun M10 => zjo (fun  (M34 : zM) => zst (zup M34 t 23 ((M34 t 20) - (M34 t 22))) (fun M35 => zV M35)) (fun (k2 : zM → zO) => zit ((M10 t 20) < (M10 t 19)) (zbI (F_X12_isLetter r3 M10) (fun r4 M11 => zit (r4 = 0) (zbI (F_X12_isDigit r3 M11) (fun r5 M12 => zit (r5 = 0) (zst (zup M12 t 20 ((M12 t 20) + 1)) (fun M13 => zjo (fun (w1 : Int32) (M15 : zM) => zst (zup M15 t 21 w1) (fun M16 => k2 M16)) (fun (k3 : Int32 → zM → zO) => zjo (fun  (M14 : zM) => k3 3 M14) (fun (k4 : zM → zO) => zit (r3 = 59) (k4 M13) (zit (r3 = 40) (k4 M13) (zit (r3 = 41) (k4 M13) (zit (r3 = 43) (k4 M13) (zit (r3 = 45) (k4 M13) (zit (r3 = 42) (k4 M13) (zit (r3 = 47) (k4 M13) (zit (r3 = 60) (k4 M13) (zit (r3 = 61) (k4 M13) (k3 4 M13))))))))))))) (F_X12_goes_L187 t (fun  (M23 : zM) => zst (zup M23 t 21 2) (fun M24 => k2 M24)) zN M12))) (F_X12_goes_L108 t (fun  (M31 : zM) => zst (zup M31 t 21 1) (fun M32 => k2 M32)) zN M11))) (zst (zup M10 t 21 0) (fun M33 => k2 M33))))))))) zN M)
  refine ct_X12_goes_L0 l hl G t ht _ (fun M5 => ?_) zN _
  refine ev_aload_n dd_X12_goes_50 0 rfl ?_
  refine ev_aload_n dd_X12_goes_51 0 rfl ?_
  refine ev_getI gf_RX12_166 dd_X12_goes_52 ht (by decide) ?_
  refine ev_putI gw_RX12_173 dd_X12_goes_55 ht (by decide) ?_
  refine ev_st (fun M6 => ?_)
  refine ev_aload_n dd_X12_goes_58 0 rfl ?_
  refine ev_lconst (v := 0) dd_X12_goes_59 (by decide) ?_
  refine ev_putL gw_RX12_176 dd_X12_goes_60 ht (by decide) ?_
  refine ev_st (fun M7 => ?_)
  refine ev_aload_n dd_X12_goes_63 0 rfl ?_
  refine ev_iconst (v := 0) dd_X12_goes_64 (by decide) ?_
  refine ev_putI gw_RX12_180 dd_X12_goes_65 ht (by decide) ?_
  refine ev_st (fun M8 => ?_)
  refine ev_aload_n dd_X12_goes_68 0 rfl ?_
  refine ev_aload_n dd_X12_goes_69 0 rfl ?_
  refine ev_getI gf_RX12_166 dd_X12_goes_70 ht (by decide) ?_
  refine ev_callVI (As := [.int (M8 t 20)]) cl_RX12_169 (ct_X12_byteAt l hl G t ht (M8 t 20) M8) dd_X12_goes_73 ht (by decide) (Nat.le_of_ble_eq_true rfl) (Nat.le_of_ble_eq_true rfl) rfl rfl (fun r3 M9 => ?_)
  refine ev_istore_n (i := 1) (lv' := [(0, .ref (G.2.1 + t)), (1, .int r3)]) [1, 0] dd_X12_goes_76 rfl (by decide) rfl ?_
  refine ev_aload_n dd_X12_goes_77 0 rfl ?_
  refine ev_iload_n dd_X12_goes_78 1 rfl ?_
  refine ev_putI gw_RX12_183 dd_X12_goes_79 ht (by decide) ?_
  refine ev_st (fun M10 => ?_)
  refine ev_aload_n dd_X12_goes_82 0 rfl ?_
  refine ev_getI gf_RX12_166 dd_X12_goes_83 ht (by decide) ?_
  refine ev_aload_n dd_X12_goes_86 0 rfl ?_
  refine ev_getI gf_RX12_163 dd_X12_goes_87 ht (by decide) ?_
  refine ev_jo (fun (k2 : zM → zO) => ∀  (M34 : zM), zEv l G Y_X12_goes 2 0 331 [(0, .ref (G.2.1 + t))] [] M34 (k2 M34)) ?_ (fun k2 hk2 => ?_)
  · intro M34
    refine ev_aload_n dd_X12_goes_331 0 rfl ?_
    refine ev_aload_n dd_X12_goes_332 0 rfl ?_
    refine ev_getI gf_RX12_166 dd_X12_goes_333 ht (by decide) ?_
    refine ev_aload_n dd_X12_goes_336 0 rfl ?_
    refine ev_lv (lv' := []) [] rfl ?_
    refine ev_getI gf_RX12_173 dd_X12_goes_337 ht (by decide) ?_
    refine ev_isub dd_X12_goes_340 ?_
    refine ev_putI gw_RX12_196 dd_X12_goes_341 ht (by decide) ?_
    refine ev_st (fun M35 => ?_)
    exact ev_vret dd_X12_goes_344 rfl (Nat.le_of_ble_eq_true rfl) rfl
  · refine ev_icmp_lt 101 dd_X12_goes_90 (by decide) ?_ ?_
    · refine ev_iload_n dd_X12_goes_101 1 rfl ?_
      refine ev_callSI (As := [.int r3]) cl_RX12_189 (ct_X12_isLetter l hl G r3 M10) dd_X12_goes_102 (by decide) (Nat.le_of_ble_eq_true rfl) (Nat.le_of_ble_eq_true rfl) rfl rfl (fun r4 M11 => ?_)
      refine ev_if_eq 180 dd_X12_goes_105 (by decide) ?_ ?_
      · refine ev_iload_n dd_X12_goes_180 1 rfl ?_
        refine ev_callSI (As := [.int r3]) cl_RX12_193 (ct_X12_isDigit l hl G r3 M11) dd_X12_goes_181 (by decide) (Nat.le_of_ble_eq_true rfl) (Nat.le_of_ble_eq_true rfl) rfl rfl (fun r5 M12 => ?_)
        refine ev_if_eq 258 dd_X12_goes_184 (by decide) ?_ ?_
        · refine ev_aload_n dd_X12_goes_258 0 rfl ?_
          refine ev_dup dd_X12_goes_259 rfl ?_
          refine ev_getI gf_RX12_166 dd_X12_goes_260 ht (by decide) ?_
          refine ev_iconst (v := 1) dd_X12_goes_263 (by decide) ?_
          refine ev_iadd dd_X12_goes_264 ?_
          refine ev_putI gw_RX12_166 dd_X12_goes_265 ht (by decide) ?_
          refine ev_st (fun M13 => ?_)
          refine ev_aload_n dd_X12_goes_268 0 rfl ?_
          refine ev_iload_n dd_X12_goes_269 1 rfl ?_
          refine ev_bipush (v := 59) dd_X12_goes_270 (by decide) ?_
          refine ev_jo (fun (k3 : Int32 → zM → zO) => ∀ (w1 : Int32) (M15 : zM), zEv l G Y_X12_goes 2 0 328 [(0, .ref (G.2.1 + t))] [.int w1, .ref (G.2.1 + t)] M15 (k3 w1 M15)) ?_ (fun k3 hk3 => ?_)
          · intro w1 M15
            refine ev_putI gw_RX12_186 dd_X12_goes_328 ht (by decide) ?_
            refine ev_st (fun M16 => ?_)
            exact hk2 _
          · refine ev_jo (fun (k4 : zM → zO) => ∀  (M14 : zM), zEv l G Y_X12_goes 2 0 323 [(0, .ref (G.2.1 + t))] [.ref (G.2.1 + t)] M14 (k4 M14)) ?_ (fun k4 hk4 => ?_)
            · intro M14
              refine ev_iconst (v := 3) dd_X12_goes_323 (by decide) ?_
              refine ev_goto 328 dd_X12_goes_324 (by decide) ?_
              exact hk3 _ _
            · refine ev_icmp_eq 323 dd_X12_goes_272 (by decide) ?_ ?_
              · refine ev_lv (lv' := [(0, .ref (G.2.1 + t))]) [0] rfl ?_
                exact hk4 _
              · refine ev_iload_n dd_X12_goes_275 1 rfl ?_
                refine ev_bipush (v := 40) dd_X12_goes_276 (by decide) ?_
                refine ev_icmp_eq 323 dd_X12_goes_278 (by decide) ?_ ?_
                · refine ev_lv (lv' := [(0, .ref (G.2.1 + t))]) [0] rfl ?_
                  exact hk4 _
                · refine ev_iload_n dd_X12_goes_281 1 rfl ?_
                  refine ev_bipush (v := 41) dd_X12_goes_282 (by decide) ?_
                  refine ev_icmp_eq 323 dd_X12_goes_284 (by decide) ?_ ?_
                  · refine ev_lv (lv' := [(0, .ref (G.2.1 + t))]) [0] rfl ?_
                    exact hk4 _
                  · refine ev_iload_n dd_X12_goes_287 1 rfl ?_
                    refine ev_bipush (v := 43) dd_X12_goes_288 (by decide) ?_
                    refine ev_icmp_eq 323 dd_X12_goes_290 (by decide) ?_ ?_
                    · refine ev_lv (lv' := [(0, .ref (G.2.1 + t))]) [0] rfl ?_
                      exact hk4 _
                    · refine ev_iload_n dd_X12_goes_293 1 rfl ?_
                      refine ev_bipush (v := 45) dd_X12_goes_294 (by decide) ?_
                      refine ev_icmp_eq 323 dd_X12_goes_296 (by decide) ?_ ?_
                      · refine ev_lv (lv' := [(0, .ref (G.2.1 + t))]) [0] rfl ?_
                        exact hk4 _
                      · refine ev_iload_n dd_X12_goes_299 1 rfl ?_
                        refine ev_bipush (v := 42) dd_X12_goes_300 (by decide) ?_
                        refine ev_icmp_eq 323 dd_X12_goes_302 (by decide) ?_ ?_
                        · refine ev_lv (lv' := [(0, .ref (G.2.1 + t))]) [0] rfl ?_
                          exact hk4 _
                        · refine ev_iload_n dd_X12_goes_305 1 rfl ?_
                          refine ev_bipush (v := 47) dd_X12_goes_306 (by decide) ?_
                          refine ev_icmp_eq 323 dd_X12_goes_308 (by decide) ?_ ?_
                          · refine ev_lv (lv' := [(0, .ref (G.2.1 + t))]) [0] rfl ?_
                            exact hk4 _
                          · refine ev_iload_n dd_X12_goes_311 1 rfl ?_
                            refine ev_bipush (v := 60) dd_X12_goes_312 (by decide) ?_
                            refine ev_icmp_eq 323 dd_X12_goes_314 (by decide) ?_ ?_
                            · refine ev_lv (lv' := [(0, .ref (G.2.1 + t))]) [0] rfl ?_
                              exact hk4 _
                            · refine ev_iload_n dd_X12_goes_317 1 rfl ?_
                              refine ev_lv (lv' := [(0, .ref (G.2.1 + t))]) [0] rfl ?_
                              refine ev_bipush (v := 61) dd_X12_goes_318 (by decide) ?_
                              refine ev_icmp_ne 327 dd_X12_goes_320 (by decide) ?_ ?_
                              · refine ev_iconst (v := 4) dd_X12_goes_327 (by decide) ?_
                                exact hk3 _ _
                              · exact hk4 _
        · refine ev_lv (lv' := [(0, .ref (G.2.1 + t))]) [0] rfl ?_
          refine ct_X12_goes_L187 l hl G t ht _ (fun M23 => ?_) zN _
          refine ev_aload_n dd_X12_goes_250 0 rfl ?_
          refine ev_iconst (v := 2) dd_X12_goes_251 (by decide) ?_
          refine ev_putI gw_RX12_186 dd_X12_goes_252 ht (by decide) ?_
          refine ev_st (fun M24 => ?_)
          refine ev_goto 331 dd_X12_goes_255 (by decide) ?_
          exact hk2 _
      · refine ev_lv (lv' := [(0, .ref (G.2.1 + t))]) [0] rfl ?_
        refine ct_X12_goes_L108 l hl G t ht _ (fun M31 => ?_) zN _
        refine ev_aload_n dd_X12_goes_172 0 rfl ?_
        refine ev_iconst (v := 1) dd_X12_goes_173 (by decide) ?_
        refine ev_putI gw_RX12_186 dd_X12_goes_174 ht (by decide) ?_
        refine ev_st (fun M32 => ?_)
        refine ev_goto 331 dd_X12_goes_177 (by decide) ?_
        exact hk2 _
    · refine ev_lv (lv' := [(0, .ref (G.2.1 + t))]) [0] rfl ?_
      refine ev_aload_n dd_X12_goes_93 0 rfl ?_
      refine ev_iconst (v := 0) dd_X12_goes_94 (by decide) ?_
      refine ev_putI gw_RX12_186 dd_X12_goes_95 ht (by decide) ?_
      refine ev_st (fun M33 => ?_)
      refine ev_goto 331 dd_X12_goes_98 (by decide) ?_
      exact hk2 _
/-! X12_closes -/
theorem dd_X12_closes_0 : decode Y_X12_closes.2.1 0 = .ok (.aload_n 0, 1) := by decide +kernel
theorem dd_X12_closes_1 : decode Y_X12_closes.2.1 1 = .ok (.iconst 0, 1) := by decide +kernel
theorem dd_X12_closes_2 : decode Y_X12_closes.2.1 2 = .ok (.invokevirtual 259, 3) := by decide +kernel
theorem dd_X12_closes_5 : decode Y_X12_closes.2.1 5 = .ok (.aload_n 0, 1) := by decide +kernel
theorem dd_X12_closes_6 : decode Y_X12_closes.2.1 6 = .ok (.dup, 1) := by decide +kernel
theorem dd_X12_closes_7 : decode Y_X12_closes.2.1 7 = .ok (.getfield 228, 3) := by decide +kernel
theorem dd_X12_closes_10 : decode Y_X12_closes.2.1 10 = .ok (.iconst 1, 1) := by decide +kernel
theorem dd_X12_closes_11 : decode Y_X12_closes.2.1 11 = .ok (.isub, 1) := by decide +kernel
theorem dd_X12_closes_12 : decode Y_X12_closes.2.1 12 = .ok (.putfield 228, 3) := by decide +kernel
theorem dd_X12_closes_15 : decode Y_X12_closes.2.1 15 = .ok (.aload_n 0, 1) := by decide +kernel
theorem dd_X12_closes_16 : decode Y_X12_closes.2.1 16 = .ok (.dup, 1) := by decide +kernel
theorem dd_X12_closes_17 : decode Y_X12_closes.2.1 17 = .ok (.getfield 244, 3) := by decide +kernel
theorem dd_X12_closes_20 : decode Y_X12_closes.2.1 20 = .ok (.iconst 1, 1) := by decide +kernel
theorem dd_X12_closes_21 : decode Y_X12_closes.2.1 21 = .ok (.isub, 1) := by decide +kernel
theorem dd_X12_closes_22 : decode Y_X12_closes.2.1 22 = .ok (.putfield 244, 3) := by decide +kernel
theorem dd_X12_closes_25 : decode Y_X12_closes.2.1 25 = .ok (.aload_n 0, 1) := by decide +kernel
theorem dd_X12_closes_26 : decode Y_X12_closes.2.1 26 = .ok (.invokevirtual 216, 3) := by decide +kernel
theorem dd_X12_closes_29 : decode Y_X12_closes.2.1 29 = .ok (.return_, 1) := by decide +kernel
def F_X12_closes (t : Nat) (M : zM) : zO := zbV (F_X12_drops t 0 M) (fun M1 => zst (zup M1 t 34 ((M1 t 34) - 1)) (fun M2 => zst (zup M2 t 35 ((M2 t 35) - 1)) (fun M3 => zbV (F_X12_goes t M3) (fun M4 => zV M4))))
set_option maxHeartbeats 1000000 in
set_option maxRecDepth 20000 in
theorem ct_X12_closes (l : Launch) (hl : l.stackTraces = false) (G : zG) (t : Nat) (ht : zsh t = 12) (M : zM) : zMt l G Y_X12_closes 3 [.ref (G.2.1 + t)] M (F_X12_closes t M) := by
  refine zMt_of (by decide +kernel) (Nat.le_of_ble_eq_true rfl) ?_
  show zEv l G Y_X12_closes 3 0 0 [(0, .ref (G.2.1 + t))] [] M (zbV (F_X12_drops t 0 M) (fun M1 => zst (zup M1 t 34 ((M1 t 34) - 1)) (fun M2 => zst (zup M2 t 35 ((M2 t 35) - 1)) (fun M3 => zbV (F_X12_goes t M3) (fun M4 => zV M4)))))
  refine ev_aload_n dd_X12_closes_0 0 rfl ?_
  refine ev_iconst (v := 0) dd_X12_closes_1 (by decide) ?_
  refine ev_callVV (As := [.int 0]) cl_RX12_259 (ct_X12_drops l hl G t ht 0 M) dd_X12_closes_2 ht (by decide) (Nat.le_of_ble_eq_true rfl) (Nat.le_of_ble_eq_true rfl) rfl rfl (fun M1 => ?_)
  refine ev_aload_n dd_X12_closes_5 0 rfl ?_
  refine ev_dup dd_X12_closes_6 rfl ?_
  refine ev_getI gf_RX12_228 dd_X12_closes_7 ht (by decide) ?_
  refine ev_iconst (v := 1) dd_X12_closes_10 (by decide) ?_
  refine ev_isub dd_X12_closes_11 ?_
  refine ev_putI gw_RX12_228 dd_X12_closes_12 ht (by decide) ?_
  refine ev_st (fun M2 => ?_)
  refine ev_aload_n dd_X12_closes_15 0 rfl ?_
  refine ev_dup dd_X12_closes_16 rfl ?_
  refine ev_getI gf_RX12_244 dd_X12_closes_17 ht (by decide) ?_
  refine ev_iconst (v := 1) dd_X12_closes_20 (by decide) ?_
  refine ev_isub dd_X12_closes_21 ?_
  refine ev_putI gw_RX12_244 dd_X12_closes_22 ht (by decide) ?_
  refine ev_st (fun M3 => ?_)
  refine ev_aload_n dd_X12_closes_25 0 rfl ?_
  refine ev_lv (lv' := []) [] rfl ?_
  refine ev_callVV (As := []) cl_RX12_216 (ct_X12_goes l hl G t ht M3) dd_X12_closes_26 ht (by decide) (Nat.le_of_ble_eq_true rfl) (Nat.le_of_ble_eq_true rfl) rfl rfl (fun M4 => ?_)
  exact ev_vret dd_X12_closes_29 rfl (Nat.le_of_ble_eq_true rfl) rfl
/-! X12_codeOf -/
theorem dd_X12_codeOf_0 : decode Y_X12_codeOf.2.1 0 = .ok (.iconst 0, 1) := by decide +kernel
theorem dd_X12_codeOf_1 : decode Y_X12_codeOf.2.1 1 = .ok (.istore_n 2, 1) := by decide +kernel
theorem dd_X12_codeOf_2 : decode Y_X12_codeOf.2.1 2 = .ok (.aload_n 0, 1) := by decide +kernel
theorem dd_X12_codeOf_3 : decode Y_X12_codeOf.2.1 3 = .ok (.getfield 319, 3) := by decide +kernel
theorem dd_X12_codeOf_6 : decode Y_X12_codeOf.2.1 6 = .ok (.iconst 1, 1) := by decide +kernel
theorem dd_X12_codeOf_7 : decode Y_X12_codeOf.2.1 7 = .ok (.isub, 1) := by decide +kernel
theorem dd_X12_codeOf_8 : decode Y_X12_codeOf.2.1 8 = .ok (.istore_n 3, 1) := by decide +kernel
theorem dd_X12_codeOf_9 : decode Y_X12_codeOf.2.1 9 = .ok (.iload_n 3, 1) := by decide +kernel
theorem dd_X12_codeOf_10 : decode Y_X12_codeOf.2.1 10 = .ok (.ifCond .lt 18, 3) := by decide +kernel
theorem dd_X12_codeOf_13 : decode Y_X12_codeOf.2.1 13 = .ok (.bipush 8, 2) := by decide +kernel
theorem dd_X12_codeOf_15 : decode Y_X12_codeOf.2.1 15 = .ok (.iload_n 2, 1) := by decide +kernel
theorem dd_X12_codeOf_16 : decode Y_X12_codeOf.2.1 16 = .ok (.imul, 1) := by decide +kernel
theorem dd_X12_codeOf_17 : decode Y_X12_codeOf.2.1 17 = .ok (.aload_n 1, 1) := by decide +kernel
theorem dd_X12_codeOf_18 : decode Y_X12_codeOf.2.1 18 = .ok (.iload_n 3, 1) := by decide +kernel
theorem dd_X12_codeOf_19 : decode Y_X12_codeOf.2.1 19 = .ok (.iaload, 1) := by decide +kernel
theorem dd_X12_codeOf_20 : decode Y_X12_codeOf.2.1 20 = .ok (.iadd, 1) := by decide +kernel
theorem dd_X12_codeOf_21 : decode Y_X12_codeOf.2.1 21 = .ok (.istore_n 2, 1) := by decide +kernel
theorem dd_X12_codeOf_22 : decode Y_X12_codeOf.2.1 22 = .ok (.iinc 3 (-1), 3) := by decide +kernel
theorem dd_X12_codeOf_25 : decode Y_X12_codeOf.2.1 25 = .ok (.goto (-16), 3) := by decide +kernel
theorem dd_X12_codeOf_28 : decode Y_X12_codeOf.2.1 28 = .ok (.iload_n 2, 1) := by decide +kernel
theorem dd_X12_codeOf_29 : decode Y_X12_codeOf.2.1 29 = .ok (.ireturn, 1) := by decide +kernel
def F_X12_codeOf_L9 (x1 : Nat) (K28 : Int32 → zM → zO) : Nat → Int32 → Int32 → zM → zO
  | 0, _, _, _ => none
  | n + 1, x2, x3, M => zit (x3 < 0) (K28 x2 M) (zck (zin x3 (zal x1)) (zlt ((8 * x2) + (M x1 (zix x3))) (fun v2 => F_X12_codeOf_L9 x1 K28 n v2 (x3 + (-1)) M)))
def F_X12_codeOf (t : Nat) (a1 : Nat) (M : zM) : zO := zlt ((M t 1) - 1) (fun v1 => F_X12_codeOf_L9 a1 (fun (y1 : Int32) (M1 : zM) => zI y1 M1) zN 0 v1 M)
set_option maxHeartbeats 1000000 in
set_option maxRecDepth 20000 in
theorem ct_X12_codeOf_L9 (l : Launch) (hl : l.stackTraces = false) (G : zG) (x1 : Nat) (hx1 : zsh x1 = 20) (K28 : Int32 → zM → zO) (hK28 : ∀ (x2 : Int32) (M : zM), zEv l G Y_X12_codeOf 1 0 28 [(2, .int x2)] [] M (K28 x2 M)) : ∀ (n : Nat) (x2 : Int32) (x3 : Int32) (M : zM), zEv l G Y_X12_codeOf 1 0 9 [(1, .ref (G.2.1 + x1)), (2, .int x2), (3, .int x3)] [] M (F_X12_codeOf_L9 x1 K28 n x2 x3 M) := by
  intro n
  induction n with
  | zero => intro x2 x3 M; exact ev_none
  | succ n ih =>
    intro x2 x3 M
    show zEv l G Y_X12_codeOf 1 0 9 [(1, .ref (G.2.1 + x1)), (2, .int x2), (3, .int x3)] [] M (zit (x3 < 0) (K28 x2 M) (zck (zin x3 (zal x1)) (zlt ((8 * x2) + (M x1 (zix x3))) (fun v2 => F_X12_codeOf_L9 x1 K28 n v2 (x3 + (-1)) M))))
    refine ev_iload_n dd_X12_codeOf_9 2 rfl ?_
    refine ev_if_lt 28 dd_X12_codeOf_10 (by decide) ?_ ?_
    · refine ev_lv (lv' := [(2, .int x2)]) [1] rfl ?_
      exact hK28 _ _
    · refine ev_bipush (v := 8) dd_X12_codeOf_13 (by decide) ?_
      refine ev_iload_n dd_X12_codeOf_15 1 rfl ?_
      refine ev_lv (lv' := [(1, .ref (G.2.1 + x1)), (3, .int x3)]) [0, 2] rfl ?_
      refine ev_imul dd_X12_codeOf_16 ?_
      refine ev_aload_n dd_X12_codeOf_17 0 rfl ?_
      refine ev_iload_n dd_X12_codeOf_18 1 rfl ?_
      refine ev_iald dd_X12_codeOf_19 hx1 rfl ?_
      refine ev_iadd dd_X12_codeOf_20 ?_
      refine ev_topi (fun v2 => ?_)
      refine ev_istore_n (i := 2) (lv' := [(1, .ref (G.2.1 + x1)), (2, .int v2), (3, .int x3)]) [1, 0, 2] dd_X12_codeOf_21 rfl (by decide) rfl ?_
      refine ev_iinc (j := 2) (v := (-1)) (lv' := [(1, .ref (G.2.1 + x1)), (2, .int v2), (3, .int (x3 + (-1)))]) [1, 2, 0] dd_X12_codeOf_22 rfl (by decide) (by decide) rfl ?_
      refine ev_goto 9 dd_X12_codeOf_25 (by decide) ?_
      exact ih _ _ _
set_option maxHeartbeats 1000000 in
set_option maxRecDepth 20000 in
theorem ct_X12_codeOf (l : Launch) (hl : l.stackTraces = false) (G : zG) (t : Nat) (ht : zsh t = 12) (a1 : Nat) (ha1 : zsh a1 = 20) (M : zM) : zMt l G Y_X12_codeOf 1 [.ref (G.2.1 + t), .ref (G.2.1 + a1)] M (F_X12_codeOf t a1 M) := by
  refine zMt_of (by decide +kernel) (Nat.le_of_ble_eq_true rfl) ?_
  show zEv l G Y_X12_codeOf 1 0 0 [(0, .ref (G.2.1 + t)), (1, .ref (G.2.1 + a1))] [] M (zlt ((M t 1) - 1) (fun v1 => F_X12_codeOf_L9 a1 (fun (y1 : Int32) (M1 : zM) => zI y1 M1) zN 0 v1 M))
  refine ev_iconst (v := 0) dd_X12_codeOf_0 (by decide) ?_
  refine ev_istore_n (i := 2) (lv' := [(0, .ref (G.2.1 + t)), (1, .ref (G.2.1 + a1)), (2, .int 0)]) [1, 2, 0] dd_X12_codeOf_1 rfl (by decide) rfl ?_
  refine ev_aload_n dd_X12_codeOf_2 0 rfl ?_
  refine ev_lv (lv' := [(1, .ref (G.2.1 + a1)), (2, .int 0)]) [1, 2] rfl ?_
  refine ev_getI gf_RX12_319 dd_X12_codeOf_3 ht (by decide) ?_
  refine ev_iconst (v := 1) dd_X12_codeOf_6 (by decide) ?_
  refine ev_isub dd_X12_codeOf_7 ?_
  refine ev_topi (fun v1 => ?_)
  refine ev_istore_n (i := 3) (lv' := [(1, .ref (G.2.1 + a1)), (2, .int 0), (3, .int v1)]) [1, 2, 0] dd_X12_codeOf_8 rfl (by decide) rfl ?_
  refine ct_X12_codeOf_L9 l hl G a1 ha1 _ (fun y1 M1 => ?_) zN _ _ _
  refine ev_iload_n dd_X12_codeOf_28 0 rfl ?_
  refine ev_lv (lv' := []) [] rfl ?_
  exact ev_iret dd_X12_codeOf_29 rfl (Nat.le_of_ble_eq_true rfl) rfl
/-! X12_common -/
theorem dd_X12_common_0 : decode Y_X12_common.2.1 0 = .ok (.aload_n 0, 1) := by decide +kernel
theorem dd_X12_common_1 : decode Y_X12_common.2.1 1 = .ok (.getfield 20, 3) := by decide +kernel
theorem dd_X12_common_4 : decode Y_X12_common.2.1 4 = .ok (.iload_n 1, 1) := by decide +kernel
theorem dd_X12_common_5 : decode Y_X12_common.2.1 5 = .ok (.iaload, 1) := by decide +kernel
theorem dd_X12_common_6 : decode Y_X12_common.2.1 6 = .ok (.aload_n 0, 1) := by decide +kernel
theorem dd_X12_common_7 : decode Y_X12_common.2.1 7 = .ok (.getfield 20, 3) := by decide +kernel
theorem dd_X12_common_10 : decode Y_X12_common.2.1 10 = .ok (.iload_n 2, 1) := by decide +kernel
theorem dd_X12_common_11 : decode Y_X12_common.2.1 11 = .ok (.iaload, 1) := by decide +kernel
theorem dd_X12_common_12 : decode Y_X12_common.2.1 12 = .ok (.if_icmp .ge 14, 3) := by decide +kernel
theorem dd_X12_common_15 : decode Y_X12_common.2.1 15 = .ok (.aload_n 0, 1) := by decide +kernel
theorem dd_X12_common_16 : decode Y_X12_common.2.1 16 = .ok (.getfield 20, 3) := by decide +kernel
theorem dd_X12_common_19 : decode Y_X12_common.2.1 19 = .ok (.iload_n 1, 1) := by decide +kernel
theorem dd_X12_common_20 : decode Y_X12_common.2.1 20 = .ok (.iaload, 1) := by decide +kernel
theorem dd_X12_common_21 : decode Y_X12_common.2.1 21 = .ok (.iconst 1, 1) := by decide +kernel
theorem dd_X12_common_22 : decode Y_X12_common.2.1 22 = .ok (.isub, 1) := by decide +kernel
theorem dd_X12_common_23 : decode Y_X12_common.2.1 23 = .ok (.goto 11, 3) := by decide +kernel
theorem dd_X12_common_26 : decode Y_X12_common.2.1 26 = .ok (.aload_n 0, 1) := by decide +kernel
theorem dd_X12_common_27 : decode Y_X12_common.2.1 27 = .ok (.getfield 20, 3) := by decide +kernel
theorem dd_X12_common_30 : decode Y_X12_common.2.1 30 = .ok (.iload_n 2, 1) := by decide +kernel
theorem dd_X12_common_31 : decode Y_X12_common.2.1 31 = .ok (.iaload, 1) := by decide +kernel
theorem dd_X12_common_32 : decode Y_X12_common.2.1 32 = .ok (.iconst 1, 1) := by decide +kernel
theorem dd_X12_common_33 : decode Y_X12_common.2.1 33 = .ok (.isub, 1) := by decide +kernel
theorem dd_X12_common_34 : decode Y_X12_common.2.1 34 = .ok (.istore_n 3, 1) := by decide +kernel
theorem dd_X12_common_35 : decode Y_X12_common.2.1 35 = .ok (.iload_n 3, 1) := by decide +kernel
theorem dd_X12_common_36 : decode Y_X12_common.2.1 36 = .ok (.istore 4, 2) := by decide +kernel
theorem dd_X12_common_38 : decode Y_X12_common.2.1 38 = .ok (.iload 4, 2) := by decide +kernel
theorem dd_X12_common_40 : decode Y_X12_common.2.1 40 = .ok (.ifCond .le 85, 3) := by decide +kernel
theorem dd_X12_common_43 : decode Y_X12_common.2.1 43 = .ok (.iconst 1, 1) := by decide +kernel
theorem dd_X12_common_44 : decode Y_X12_common.2.1 44 = .ok (.istore 5, 2) := by decide +kernel
theorem dd_X12_common_46 : decode Y_X12_common.2.1 46 = .ok (.iconst 0, 1) := by decide +kernel
theorem dd_X12_common_47 : decode Y_X12_common.2.1 47 = .ok (.istore 6, 2) := by decide +kernel
theorem dd_X12_common_49 : decode Y_X12_common.2.1 49 = .ok (.iload 6, 2) := by decide +kernel
theorem dd_X12_common_51 : decode Y_X12_common.2.1 51 = .ok (.iload 4, 2) := by decide +kernel
theorem dd_X12_common_53 : decode Y_X12_common.2.1 53 = .ok (.if_icmp .ge 58, 3) := by decide +kernel
theorem dd_X12_common_56 : decode Y_X12_common.2.1 56 = .ok (.iload 5, 2) := by decide +kernel
theorem dd_X12_common_58 : decode Y_X12_common.2.1 58 = .ok (.ifCond .eq 53, 3) := by decide +kernel
theorem dd_X12_common_61 : decode Y_X12_common.2.1 61 = .ok (.aload_n 0, 1) := by decide +kernel
theorem dd_X12_common_62 : decode Y_X12_common.2.1 62 = .ok (.getfield 16, 3) := by decide +kernel
theorem dd_X12_common_65 : decode Y_X12_common.2.1 65 = .ok (.bipush 9, 2) := by decide +kernel
theorem dd_X12_common_67 : decode Y_X12_common.2.1 67 = .ok (.iload_n 1, 1) := by decide +kernel
theorem dd_X12_common_68 : decode Y_X12_common.2.1 68 = .ok (.imul, 1) := by decide +kernel
theorem dd_X12_common_69 : decode Y_X12_common.2.1 69 = .ok (.aload_n 0, 1) := by decide +kernel
theorem dd_X12_common_70 : decode Y_X12_common.2.1 70 = .ok (.getfield 20, 3) := by decide +kernel
theorem dd_X12_common_73 : decode Y_X12_common.2.1 73 = .ok (.iload_n 1, 1) := by decide +kernel
theorem dd_X12_common_74 : decode Y_X12_common.2.1 74 = .ok (.iaload, 1) := by decide +kernel
theorem dd_X12_common_75 : decode Y_X12_common.2.1 75 = .ok (.iadd, 1) := by decide +kernel
theorem dd_X12_common_76 : decode Y_X12_common.2.1 76 = .ok (.iload 4, 2) := by decide +kernel
theorem dd_X12_common_78 : decode Y_X12_common.2.1 78 = .ok (.isub, 1) := by decide +kernel
theorem dd_X12_common_79 : decode Y_X12_common.2.1 79 = .ok (.iload 6, 2) := by decide +kernel
theorem dd_X12_common_81 : decode Y_X12_common.2.1 81 = .ok (.iadd, 1) := by decide +kernel
theorem dd_X12_common_82 : decode Y_X12_common.2.1 82 = .ok (.iaload, 1) := by decide +kernel
theorem dd_X12_common_83 : decode Y_X12_common.2.1 83 = .ok (.aload_n 0, 1) := by decide +kernel
theorem dd_X12_common_84 : decode Y_X12_common.2.1 84 = .ok (.getfield 16, 3) := by decide +kernel
theorem dd_X12_common_87 : decode Y_X12_common.2.1 87 = .ok (.bipush 9, 2) := by decide +kernel
theorem dd_X12_common_89 : decode Y_X12_common.2.1 89 = .ok (.iload_n 2, 1) := by decide +kernel
theorem dd_X12_common_90 : decode Y_X12_common.2.1 90 = .ok (.imul, 1) := by decide +kernel
theorem dd_X12_common_91 : decode Y_X12_common.2.1 91 = .ok (.iload 6, 2) := by decide +kernel
theorem dd_X12_common_93 : decode Y_X12_common.2.1 93 = .ok (.iadd, 1) := by decide +kernel
theorem dd_X12_common_94 : decode Y_X12_common.2.1 94 = .ok (.iaload, 1) := by decide +kernel
theorem dd_X12_common_95 : decode Y_X12_common.2.1 95 = .ok (.if_icmp .ne 7, 3) := by decide +kernel
theorem dd_X12_common_98 : decode Y_X12_common.2.1 98 = .ok (.iconst 1, 1) := by decide +kernel
theorem dd_X12_common_99 : decode Y_X12_common.2.1 99 = .ok (.goto 4, 3) := by decide +kernel
theorem dd_X12_common_102 : decode Y_X12_common.2.1 102 = .ok (.iconst 0, 1) := by decide +kernel
theorem dd_X12_common_103 : decode Y_X12_common.2.1 103 = .ok (.istore 5, 2) := by decide +kernel
theorem dd_X12_common_105 : decode Y_X12_common.2.1 105 = .ok (.iinc 6 1, 3) := by decide +kernel
theorem dd_X12_common_108 : decode Y_X12_common.2.1 108 = .ok (.goto (-59), 3) := by decide +kernel
theorem dd_X12_common_111 : decode Y_X12_common.2.1 111 = .ok (.iload 5, 2) := by decide +kernel
theorem dd_X12_common_113 : decode Y_X12_common.2.1 113 = .ok (.ifCond .eq 6, 3) := by decide +kernel
theorem dd_X12_common_116 : decode Y_X12_common.2.1 116 = .ok (.iload 4, 2) := by decide +kernel
theorem dd_X12_common_118 : decode Y_X12_common.2.1 118 = .ok (.ireturn, 1) := by decide +kernel
theorem dd_X12_common_119 : decode Y_X12_common.2.1 119 = .ok (.iinc 4 (-1), 3) := by decide +kernel
theorem dd_X12_common_122 : decode Y_X12_common.2.1 122 = .ok (.goto (-84), 3) := by decide +kernel
theorem dd_X12_common_125 : decode Y_X12_common.2.1 125 = .ok (.iconst 0, 1) := by decide +kernel
theorem dd_X12_common_126 : decode Y_X12_common.2.1 126 = .ok (.ireturn, 1) := by decide +kernel
def F_X12_common_L49 (x0 : Nat) (x1 : Int32) (x2 : Int32) (x4 : Int32) (K111 : Int32 → zM → zO) : Nat → Int32 → Int32 → zM → zO
  | 0, _, _, _ => none
  | n + 1, x5, x6, M => zit (x4 ≤ x6) (K111 x5 M) (zit (x5 = 0) (K111 x5 M) (zck (zin x1 8) (zck (zin ((((9 * x1) + (M (zgr x0 6) (zix x1))) - x4) + x6) 72) (zck (zin ((9 * x2) + x6) 72) (zjo (fun (w2 : Int32) (M2 : zM) => F_X12_common_L49 x0 x1 x2 x4 K111 n w2 (x6 + 1) M2) (fun (k2 : Int32 → zM → zO) => zit ((M (zgr x0 5) (zix ((((9 * x1) + (M (zgr x0 6) (zix x1))) - x4) + x6))) = (M (zgr x0 5) (zix ((9 * x2) + x6)))) (k2 1 M) (k2 0 M)))))))
def F_X12_common_L38 (x0 : Nat) (x1 : Int32) (x2 : Int32) (K125 : zM → zO) : Nat → Int32 → zM → zO
  | 0, _, _ => none
  | n + 1, x4, M => zit (x4 ≤ 0) (K125 M) (F_X12_common_L49 x0 x1 x2 x4 (fun (y1 : Int32) (M3 : zM) => zit (y1 = 0) (F_X12_common_L38 x0 x1 x2 K125 n (x4 + (-1)) M3) (zI x4 M3)) zN 1 0 M)
def F_X12_common (t : Nat) (a1 : Int32) (a2 : Int32) (M : zM) : zO := zck (zin a1 8) (zck (zin a2 8) (zjo (fun (w1 : Int32) (M1 : zM) => F_X12_common_L38 t a1 a2 (fun  (M4 : zM) => zI 0 M4) zN w1 M1) (fun (k1 : Int32 → zM → zO) => zit ((M (zgr t 6) (zix a2)) ≤ (M (zgr t 6) (zix a1))) (zck (zin a2 8) (k1 ((M (zgr t 6) (zix a2)) - 1) M)) (zck (zin a1 8) (k1 ((M (zgr t 6) (zix a1)) - 1) M)))))
set_option maxHeartbeats 1000000 in
set_option maxRecDepth 20000 in
theorem ct_X12_common_L49 (l : Launch) (hl : l.stackTraces = false) (G : zG) (x0 : Nat) (hx0 : zsh x0 = 12) (x1 : Int32) (x2 : Int32) (x4 : Int32) (K111 : Int32 → zM → zO) (hK111 : ∀ (x5 : Int32) (M : zM), zEv l G Y_X12_common 1 0 111 [(0, .ref (G.2.1 + x0)), (1, .int x1), (2, .int x2), (4, .int x4), (5, .int x5)] [] M (K111 x5 M)) : ∀ (n : Nat) (x5 : Int32) (x6 : Int32) (M : zM), zEv l G Y_X12_common 1 0 49 [(0, .ref (G.2.1 + x0)), (1, .int x1), (2, .int x2), (4, .int x4), (5, .int x5), (6, .int x6)] [] M (F_X12_common_L49 x0 x1 x2 x4 K111 n x5 x6 M) := by
  intro n
  induction n with
  | zero => intro x5 x6 M; exact ev_none
  | succ n ih =>
    intro x5 x6 M
    show zEv l G Y_X12_common 1 0 49 [(0, .ref (G.2.1 + x0)), (1, .int x1), (2, .int x2), (4, .int x4), (5, .int x5), (6, .int x6)] [] M (zit (x4 ≤ x6) (K111 x5 M) (zit (x5 = 0) (K111 x5 M) (zck (zin x1 8) (zck (zin ((((9 * x1) + (M (zgr x0 6) (zix x1))) - x4) + x6) 72) (zck (zin ((9 * x2) + x6) 72) (zjo (fun (w2 : Int32) (M2 : zM) => F_X12_common_L49 x0 x1 x2 x4 K111 n w2 (x6 + 1) M2) (fun (k2 : Int32 → zM → zO) => zit ((M (zgr x0 5) (zix ((((9 * x1) + (M (zgr x0 6) (zix x1))) - x4) + x6))) = (M (zgr x0 5) (zix ((9 * x2) + x6)))) (k2 1 M) (k2 0 M))))))))
    refine ev_iload dd_X12_common_49 5 rfl ?_
    refine ev_iload dd_X12_common_51 3 rfl ?_
    refine ev_icmp_ge 111 dd_X12_common_53 (by decide) ?_ ?_
    · refine ev_lv (lv' := [(0, .ref (G.2.1 + x0)), (1, .int x1), (2, .int x2), (4, .int x4), (5, .int x5)]) [0, 1, 2, 3, 4] rfl ?_
      exact hK111 _ _
    · refine ev_iload dd_X12_common_56 4 rfl ?_
      refine ev_if_eq 111 dd_X12_common_58 (by decide) ?_ ?_
      · refine ev_lv (lv' := [(0, .ref (G.2.1 + x0)), (1, .int x1), (2, .int x2), (4, .int x4), (5, .int x5)]) [0, 1, 2, 3, 4] rfl ?_
        exact hK111 _ _
      · refine ev_lv (lv' := [(0, .ref (G.2.1 + x0)), (1, .int x1), (2, .int x2), (4, .int x4), (6, .int x6)]) [0, 1, 2, 3, 5] rfl ?_
        refine ev_aload_n dd_X12_common_61 0 rfl ?_
        refine ev_getR gf_RX12_16 dd_X12_common_62 hx0 (by decide) ?_
        refine ev_bipush (v := 9) dd_X12_common_65 (by decide) ?_
        refine ev_iload_n dd_X12_common_67 1 rfl ?_
        refine ev_imul dd_X12_common_68 ?_
        refine ev_aload_n dd_X12_common_69 0 rfl ?_
        refine ev_getR gf_RX12_20 dd_X12_common_70 hx0 (by decide) ?_
        refine ev_iload_n dd_X12_common_73 1 rfl ?_
        refine ev_iald dd_X12_common_74 ((zg_12_6 hx0).1) ((zg_12_6 hx0).2) ?_
        refine ev_iadd dd_X12_common_75 ?_
        refine ev_iload dd_X12_common_76 3 rfl ?_
        refine ev_isub dd_X12_common_78 ?_
        refine ev_iload dd_X12_common_79 4 rfl ?_
        refine ev_iadd dd_X12_common_81 ?_
        refine ev_iald dd_X12_common_82 ((zg_12_5 hx0).1) ((zg_12_5 hx0).2) ?_
        refine ev_aload_n dd_X12_common_83 0 rfl ?_
        refine ev_getR gf_RX12_16 dd_X12_common_84 hx0 (by decide) ?_
        refine ev_bipush (v := 9) dd_X12_common_87 (by decide) ?_
        refine ev_iload_n dd_X12_common_89 2 rfl ?_
        refine ev_imul dd_X12_common_90 ?_
        refine ev_iload dd_X12_common_91 4 rfl ?_
        refine ev_iadd dd_X12_common_93 ?_
        refine ev_iald dd_X12_common_94 ((zg_12_5 hx0).1) ((zg_12_5 hx0).2) ?_
        refine ev_jo (fun (k2 : Int32 → zM → zO) => ∀ (w2 : Int32) (M2 : zM), zEv l G Y_X12_common 1 0 103 [(0, .ref (G.2.1 + x0)), (1, .int x1), (2, .int x2), (4, .int x4), (6, .int x6)] [.int w2] M2 (k2 w2 M2)) ?_ (fun k2 hk2 => ?_)
        · intro w2 M2
          refine ev_istore (i := 5) (lv' := [(0, .ref (G.2.1 + x0)), (1, .int x1), (2, .int x2), (4, .int x4), (5, .int w2), (6, .int x6)]) [1, 2, 3, 4, 0, 5] dd_X12_common_103 (by decide) rfl ?_
          refine ev_iinc (j := 5) (v := 1) (lv' := [(0, .ref (G.2.1 + x0)), (1, .int x1), (2, .int x2), (4, .int x4), (5, .int w2), (6, .int (x6 + 1))]) [1, 2, 3, 4, 5, 0] dd_X12_common_105 rfl (by decide) (by decide) rfl ?_
          refine ev_goto 49 dd_X12_common_108 (by decide) ?_
          exact ih _ _ _
        · refine ev_icmp_ne 102 dd_X12_common_95 (by decide) ?_ ?_
          · refine ev_iconst (v := 0) dd_X12_common_102 (by decide) ?_
            exact hk2 _ _
          · refine ev_iconst (v := 1) dd_X12_common_98 (by decide) ?_
            refine ev_goto 103 dd_X12_common_99 (by decide) ?_
            exact hk2 _ _
set_option maxHeartbeats 1000000 in
set_option maxRecDepth 20000 in
theorem ct_X12_common_L38 (l : Launch) (hl : l.stackTraces = false) (G : zG) (x0 : Nat) (hx0 : zsh x0 = 12) (x1 : Int32) (x2 : Int32) (K125 : zM → zO) (hK125 : ∀  (M : zM), zEv l G Y_X12_common 1 0 125 [] [] M (K125 M)) : ∀ (n : Nat) (x4 : Int32) (M : zM), zEv l G Y_X12_common 1 0 38 [(0, .ref (G.2.1 + x0)), (1, .int x1), (2, .int x2), (4, .int x4)] [] M (F_X12_common_L38 x0 x1 x2 K125 n x4 M) := by
  intro n
  induction n with
  | zero => intro x4 M; exact ev_none
  | succ n ih =>
    intro x4 M
    show zEv l G Y_X12_common 1 0 38 [(0, .ref (G.2.1 + x0)), (1, .int x1), (2, .int x2), (4, .int x4)] [] M (zit (x4 ≤ 0) (K125 M) (F_X12_common_L49 x0 x1 x2 x4 (fun (y1 : Int32) (M3 : zM) => zit (y1 = 0) (F_X12_common_L38 x0 x1 x2 K125 n (x4 + (-1)) M3) (zI x4 M3)) zN 1 0 M))
    refine ev_iload dd_X12_common_38 3 rfl ?_
    refine ev_if_le 125 dd_X12_common_40 (by decide) ?_ ?_
    · refine ev_lv (lv' := []) [] rfl ?_
      exact hK125 _
    · refine ev_iconst (v := 1) dd_X12_common_43 (by decide) ?_
      refine ev_istore (i := 5) (lv' := [(0, .ref (G.2.1 + x0)), (1, .int x1), (2, .int x2), (4, .int x4), (5, .int 1)]) [1, 2, 3, 4, 0] dd_X12_common_44 (by decide) rfl ?_
      refine ev_iconst (v := 0) dd_X12_common_46 (by decide) ?_
      refine ev_istore (i := 6) (lv' := [(0, .ref (G.2.1 + x0)), (1, .int x1), (2, .int x2), (4, .int x4), (5, .int 1), (6, .int 0)]) [1, 2, 3, 4, 5, 0] dd_X12_common_47 (by decide) rfl ?_
      refine ct_X12_common_L49 l hl G x0 hx0 x1 x2 x4 _ (fun y1 M3 => ?_) zN _ _ _
      refine ev_iload dd_X12_common_111 4 rfl ?_
      refine ev_lv (lv' := [(0, .ref (G.2.1 + x0)), (1, .int x1), (2, .int x2), (4, .int x4)]) [0, 1, 2, 3] rfl ?_
      refine ev_if_eq 119 dd_X12_common_113 (by decide) ?_ ?_
      · refine ev_iinc (j := 3) (v := (-1)) (lv' := [(0, .ref (G.2.1 + x0)), (1, .int x1), (2, .int x2), (4, .int (x4 + (-1)))]) [1, 2, 3, 0] dd_X12_common_119 rfl (by decide) (by decide) rfl ?_
        refine ev_goto 38 dd_X12_common_122 (by decide) ?_
        exact ih _ _
      · refine ev_lv (lv' := [(4, .int x4)]) [3] rfl ?_
        refine ev_iload dd_X12_common_116 0 rfl ?_
        refine ev_lv (lv' := []) [] rfl ?_
        exact ev_iret dd_X12_common_118 rfl (Nat.le_of_ble_eq_true rfl) rfl
set_option maxHeartbeats 1000000 in
set_option maxRecDepth 20000 in
theorem ct_X12_common (l : Launch) (hl : l.stackTraces = false) (G : zG) (t : Nat) (ht : zsh t = 12) (a1 : Int32) (a2 : Int32) (M : zM) : zMt l G Y_X12_common 1 [.ref (G.2.1 + t), .int a1, .int a2] M (F_X12_common t a1 a2 M) := by
  refine zMt_of (by decide +kernel) (Nat.le_of_ble_eq_true rfl) ?_
  show zEv l G Y_X12_common 1 0 0 [(0, .ref (G.2.1 + t)), (1, .int a1), (2, .int a2)] [] M (zck (zin a1 8) (zck (zin a2 8) (zjo (fun (w1 : Int32) (M1 : zM) => F_X12_common_L38 t a1 a2 (fun  (M4 : zM) => zI 0 M4) zN w1 M1) (fun (k1 : Int32 → zM → zO) => zit ((M (zgr t 6) (zix a2)) ≤ (M (zgr t 6) (zix a1))) (zck (zin a2 8) (k1 ((M (zgr t 6) (zix a2)) - 1) M)) (zck (zin a1 8) (k1 ((M (zgr t 6) (zix a1)) - 1) M))))))
  refine ev_aload_n dd_X12_common_0 0 rfl ?_
  refine ev_getR gf_RX12_20 dd_X12_common_1 ht (by decide) ?_
  refine ev_iload_n dd_X12_common_4 1 rfl ?_
  refine ev_iald dd_X12_common_5 ((zg_12_6 ht).1) ((zg_12_6 ht).2) ?_
  refine ev_aload_n dd_X12_common_6 0 rfl ?_
  refine ev_getR gf_RX12_20 dd_X12_common_7 ht (by decide) ?_
  refine ev_iload_n dd_X12_common_10 2 rfl ?_
  refine ev_iald dd_X12_common_11 ((zg_12_6 ht).1) ((zg_12_6 ht).2) ?_
  refine ev_jo (fun (k1 : Int32 → zM → zO) => ∀ (w1 : Int32) (M1 : zM), zEv l G Y_X12_common 1 0 34 [(0, .ref (G.2.1 + t)), (1, .int a1), (2, .int a2)] [.int w1] M1 (k1 w1 M1)) ?_ (fun k1 hk1 => ?_)
  · intro w1 M1
    refine ev_istore_n (i := 3) (lv' := [(0, .ref (G.2.1 + t)), (1, .int a1), (2, .int a2), (3, .int w1)]) [1, 2, 3, 0] dd_X12_common_34 rfl (by decide) rfl ?_
    refine ev_iload_n dd_X12_common_35 3 rfl ?_
    refine ev_lv (lv' := [(0, .ref (G.2.1 + t)), (1, .int a1), (2, .int a2)]) [0, 1, 2] rfl ?_
    refine ev_istore (i := 4) (lv' := [(0, .ref (G.2.1 + t)), (1, .int a1), (2, .int a2), (4, .int w1)]) [1, 2, 3, 0] dd_X12_common_36 (by decide) rfl ?_
    refine ct_X12_common_L38 l hl G t ht a1 a2 _ (fun M4 => ?_) zN _ _
    refine ev_iconst (v := 0) dd_X12_common_125 (by decide) ?_
    exact ev_iret dd_X12_common_126 rfl (Nat.le_of_ble_eq_true rfl) rfl
  · refine ev_icmp_ge 26 dd_X12_common_12 (by decide) ?_ ?_
    · refine ev_aload_n dd_X12_common_26 0 rfl ?_
      refine ev_getR gf_RX12_20 dd_X12_common_27 ht (by decide) ?_
      refine ev_iload_n dd_X12_common_30 2 rfl ?_
      refine ev_iald dd_X12_common_31 ((zg_12_6 ht).1) ((zg_12_6 ht).2) ?_
      refine ev_iconst (v := 1) dd_X12_common_32 (by decide) ?_
      refine ev_isub dd_X12_common_33 ?_
      exact hk1 _ _
    · refine ev_aload_n dd_X12_common_15 0 rfl ?_
      refine ev_getR gf_RX12_20 dd_X12_common_16 ht (by decide) ?_
      refine ev_iload_n dd_X12_common_19 1 rfl ?_
      refine ev_iald dd_X12_common_20 ((zg_12_6 ht).1) ((zg_12_6 ht).2) ?_
      refine ev_iconst (v := 1) dd_X12_common_21 (by decide) ?_
      refine ev_isub dd_X12_common_22 ?_
      refine ev_goto 34 dd_X12_common_23 (by decide) ?_
      exact hk1 _ _
/-! X12_count -/
theorem dd_X12_count_0 : decode Y_X12_count.2.1 0 = .ok (.aload_n 0, 1) := by decide +kernel
theorem dd_X12_count_1 : decode Y_X12_count.2.1 1 = .ok (.iconst 0, 1) := by decide +kernel
theorem dd_X12_count_2 : decode Y_X12_count.2.1 2 = .ok (.putfield 153, 3) := by decide +kernel
theorem dd_X12_count_5 : decode Y_X12_count.2.1 5 = .ok (.aload_n 0, 1) := by decide +kernel
theorem dd_X12_count_6 : decode Y_X12_count.2.1 6 = .ok (.iload_n 1, 1) := by decide +kernel
theorem dd_X12_count_7 : decode Y_X12_count.2.1 7 = .ok (.iconst 0, 1) := by decide +kernel
theorem dd_X12_count_8 : decode Y_X12_count.2.1 8 = .ok (.bipush 10, 2) := by decide +kernel
theorem dd_X12_count_10 : decode Y_X12_count.2.1 10 = .ok (.invokestatic 339, 3) := by decide +kernel
theorem dd_X12_count_13 : decode Y_X12_count.2.1 13 = .ok (.iconst 1, 1) := by decide +kernel
theorem dd_X12_count_14 : decode Y_X12_count.2.1 14 = .ok (.invokevirtual 312, 3) := by decide +kernel
theorem dd_X12_count_17 : decode Y_X12_count.2.1 17 = .ok (.ifCond .ne 5, 3) := by decide +kernel
theorem dd_X12_count_20 : decode Y_X12_count.2.1 20 = .ok (.iconst 0, 1) := by decide +kernel
theorem dd_X12_count_21 : decode Y_X12_count.2.1 21 = .ok (.ireturn, 1) := by decide +kernel
theorem dd_X12_count_22 : decode Y_X12_count.2.1 22 = .ok (.iload_n 1, 1) := by decide +kernel
theorem dd_X12_count_23 : decode Y_X12_count.2.1 23 = .ok (.tableswitch 100 0 10 #[57, 62, 67, 72, 80, 85, 90, 100, 100, 100, 95], 57) := by decide +kernel
theorem dd_X12_count_80 : decode Y_X12_count.2.1 80 = .ok (.aload_n 0, 1) := by decide +kernel
theorem dd_X12_count_81 : decode Y_X12_count.2.1 81 = .ok (.getfield 319, 3) := by decide +kernel
theorem dd_X12_count_84 : decode Y_X12_count.2.1 84 = .ok (.ireturn, 1) := by decide +kernel
theorem dd_X12_count_85 : decode Y_X12_count.2.1 85 = .ok (.aload_n 0, 1) := by decide +kernel
theorem dd_X12_count_86 : decode Y_X12_count.2.1 86 = .ok (.getfield 322, 3) := by decide +kernel
theorem dd_X12_count_89 : decode Y_X12_count.2.1 89 = .ok (.ireturn, 1) := by decide +kernel
theorem dd_X12_count_90 : decode Y_X12_count.2.1 90 = .ok (.aload_n 0, 1) := by decide +kernel
theorem dd_X12_count_91 : decode Y_X12_count.2.1 91 = .ok (.getfield 7, 3) := by decide +kernel
theorem dd_X12_count_94 : decode Y_X12_count.2.1 94 = .ok (.ireturn, 1) := by decide +kernel
theorem dd_X12_count_95 : decode Y_X12_count.2.1 95 = .ok (.aload_n 0, 1) := by decide +kernel
theorem dd_X12_count_96 : decode Y_X12_count.2.1 96 = .ok (.getfield 87, 3) := by decide +kernel
theorem dd_X12_count_99 : decode Y_X12_count.2.1 99 = .ok (.bipush 72, 2) := by decide +kernel
theorem dd_X12_count_101 : decode Y_X12_count.2.1 101 = .ok (.iaload, 1) := by decide +kernel
theorem dd_X12_count_102 : decode Y_X12_count.2.1 102 = .ok (.ireturn, 1) := by decide +kernel
theorem dd_X12_count_103 : decode Y_X12_count.2.1 103 = .ok (.aload_n 0, 1) := by decide +kernel
theorem dd_X12_count_104 : decode Y_X12_count.2.1 104 = .ok (.getfield 329, 3) := by decide +kernel
theorem dd_X12_count_107 : decode Y_X12_count.2.1 107 = .ok (.ireturn, 1) := by decide +kernel
theorem dd_X12_count_108 : decode Y_X12_count.2.1 108 = .ok (.aload_n 0, 1) := by decide +kernel
theorem dd_X12_count_109 : decode Y_X12_count.2.1 109 = .ok (.getfield 332, 3) := by decide +kernel
theorem dd_X12_count_112 : decode Y_X12_count.2.1 112 = .ok (.ireturn, 1) := by decide +kernel
theorem dd_X12_count_113 : decode Y_X12_count.2.1 113 = .ok (.aload_n 0, 1) := by decide +kernel
theorem dd_X12_count_114 : decode Y_X12_count.2.1 114 = .ok (.getfield 156, 3) := by decide +kernel
theorem dd_X12_count_117 : decode Y_X12_count.2.1 117 = .ok (.ireturn, 1) := by decide +kernel
theorem dd_X12_count_118 : decode Y_X12_count.2.1 118 = .ok (.aload_n 0, 1) := by decide +kernel
theorem dd_X12_count_119 : decode Y_X12_count.2.1 119 = .ok (.invokevirtual 343, 3) := by decide +kernel
theorem dd_X12_count_122 : decode Y_X12_count.2.1 122 = .ok (.ireturn, 1) := by decide +kernel
theorem dd_X12_count_123 : decode Y_X12_count.2.1 123 = .ok (.aload_n 0, 1) := by decide +kernel
theorem dd_X12_count_124 : decode Y_X12_count.2.1 124 = .ok (.getfield 50, 3) := by decide +kernel
theorem dd_X12_count_127 : decode Y_X12_count.2.1 127 = .ok (.iload_n 1, 1) := by decide +kernel
theorem dd_X12_count_128 : decode Y_X12_count.2.1 128 = .ok (.bipush 7, 2) := by decide +kernel
theorem dd_X12_count_130 : decode Y_X12_count.2.1 130 = .ok (.isub, 1) := by decide +kernel
theorem dd_X12_count_131 : decode Y_X12_count.2.1 131 = .ok (.iaload, 1) := by decide +kernel
theorem dd_X12_count_132 : decode Y_X12_count.2.1 132 = .ok (.ireturn, 1) := by decide +kernel
def F_X12_count (t : Nat) (a1 : Int32) (M : zM) : zO := zst (zup M t 0 0) (fun M1 => zbI (F_X12_within a1 0 10 M1) (fun r1 M2 => zbI (F_X12_right t r1 1 M2) (fun r2 M3 => zit (r2 = 0) (zI 0 M3) (zit (a1 = 0) (zI (M3 t 1) M3) (zit (a1 = 1) (zI (M3 t 2) M3) (zit (a1 = 2) (zI (M3 t 3) M3) (zit (a1 = 3) (zck (zin 72 73) (zI (M3 (zgr t 47) (zix 72)) M3)) (zit (a1 = 4) (zI (M3 t 50) M3) (zit (a1 = 5) (zI (M3 t 64) M3) (zit (a1 = 6) (zI (M3 t 15) M3) (zit (a1 = 7) (zck (zin (a1 - 7) 3) (zI (M3 (zgr t 18) (zix (a1 - 7))) M3)) (zit (a1 = 8) (zck (zin (a1 - 7) 3) (zI (M3 (zgr t 18) (zix (a1 - 7))) M3)) (zit (a1 = 9) (zck (zin (a1 - 7) 3) (zI (M3 (zgr t 18) (zix (a1 - 7))) M3)) (zit (a1 = 10) (zbI (F_X12_atHome t M3) (fun r3 M4 => zI r3 M4)) (zck (zin (a1 - 7) 3) (zI (M3 (zgr t 18) (zix (a1 - 7))) M3))))))))))))))))
set_option maxHeartbeats 1000000 in
set_option maxRecDepth 20000 in
theorem ct_X12_count (l : Launch) (hl : l.stackTraces = false) (G : zG) (t : Nat) (ht : zsh t = 12) (a1 : Int32) (M : zM) : zMt l G Y_X12_count 2 [.ref (G.2.1 + t), .int a1] M (F_X12_count t a1 M) := by
  refine zMt_of (by decide +kernel) (Nat.le_of_ble_eq_true rfl) ?_
  show zEv l G Y_X12_count 2 0 0 [(0, .ref (G.2.1 + t)), (1, .int a1)] [] M (zst (zup M t 0 0) (fun M1 => zbI (F_X12_within a1 0 10 M1) (fun r1 M2 => zbI (F_X12_right t r1 1 M2) (fun r2 M3 => zit (r2 = 0) (zI 0 M3) (zit (a1 = 0) (zI (M3 t 1) M3) (zit (a1 = 1) (zI (M3 t 2) M3) (zit (a1 = 2) (zI (M3 t 3) M3) (zit (a1 = 3) (zck (zin 72 73) (zI (M3 (zgr t 47) (zix 72)) M3)) (zit (a1 = 4) (zI (M3 t 50) M3) (zit (a1 = 5) (zI (M3 t 64) M3) (zit (a1 = 6) (zI (M3 t 15) M3) (zit (a1 = 7) (zck (zin (a1 - 7) 3) (zI (M3 (zgr t 18) (zix (a1 - 7))) M3)) (zit (a1 = 8) (zck (zin (a1 - 7) 3) (zI (M3 (zgr t 18) (zix (a1 - 7))) M3)) (zit (a1 = 9) (zck (zin (a1 - 7) 3) (zI (M3 (zgr t 18) (zix (a1 - 7))) M3)) (zit (a1 = 10) (zbI (F_X12_atHome t M3) (fun r3 M4 => zI r3 M4)) (zck (zin (a1 - 7) 3) (zI (M3 (zgr t 18) (zix (a1 - 7))) M3)))))))))))))))))
  refine ev_aload_n dd_X12_count_0 0 rfl ?_
  refine ev_iconst (v := 0) dd_X12_count_1 (by decide) ?_
  refine ev_putI gw_RX12_153 dd_X12_count_2 ht (by decide) ?_
  refine ev_st (fun M1 => ?_)
  refine ev_aload_n dd_X12_count_5 0 rfl ?_
  refine ev_iload_n dd_X12_count_6 1 rfl ?_
  refine ev_iconst (v := 0) dd_X12_count_7 (by decide) ?_
  refine ev_bipush (v := 10) dd_X12_count_8 (by decide) ?_
  refine ev_callSI (As := [.int a1, .int 0, .int 10]) cl_RX12_339 (ct_X12_within l hl G a1 0 10 M1) dd_X12_count_10 (by decide) (Nat.le_of_ble_eq_true rfl) (Nat.le_of_ble_eq_true rfl) rfl rfl (fun r1 M2 => ?_)
  refine ev_iconst (v := 1) dd_X12_count_13 (by decide) ?_
  refine ev_callVI (As := [.int r1, .int 1]) cl_RX12_312 (ct_X12_right l hl G t ht r1 1 M2) dd_X12_count_14 ht (by decide) (Nat.le_of_ble_eq_true rfl) (Nat.le_of_ble_eq_true rfl) rfl rfl (fun r2 M3 => ?_)
  refine ev_if_ne 22 dd_X12_count_17 (by decide) ?_ ?_
  · refine ev_iload_n dd_X12_count_22 1 rfl ?_
    refine ev_it (fun hs1 => ?_) (fun hs1 => ?_)
    · refine ev_tabIn (off := 57) (tgt := 80) dd_X12_count_23 0 hs1 (by decide +kernel) ?_
      refine ev_lv (lv' := [(0, .ref (G.2.1 + t))]) [0] rfl ?_
      refine ev_aload_n dd_X12_count_80 0 rfl ?_
      refine ev_lv (lv' := []) [] rfl ?_
      refine ev_getI gf_RX12_319 dd_X12_count_81 ht (by decide) ?_
      exact ev_iret dd_X12_count_84 rfl (Nat.le_of_ble_eq_true rfl) rfl
    refine ev_it (fun hs2 => ?_) (fun hs2 => ?_)
    · refine ev_tabIn (off := 62) (tgt := 85) dd_X12_count_23 1 hs2 (by decide +kernel) ?_
      refine ev_lv (lv' := [(0, .ref (G.2.1 + t))]) [0] rfl ?_
      refine ev_aload_n dd_X12_count_85 0 rfl ?_
      refine ev_lv (lv' := []) [] rfl ?_
      refine ev_getI gf_RX12_322 dd_X12_count_86 ht (by decide) ?_
      exact ev_iret dd_X12_count_89 rfl (Nat.le_of_ble_eq_true rfl) rfl
    refine ev_it (fun hs3 => ?_) (fun hs3 => ?_)
    · refine ev_tabIn (off := 67) (tgt := 90) dd_X12_count_23 2 hs3 (by decide +kernel) ?_
      refine ev_lv (lv' := [(0, .ref (G.2.1 + t))]) [0] rfl ?_
      refine ev_aload_n dd_X12_count_90 0 rfl ?_
      refine ev_lv (lv' := []) [] rfl ?_
      refine ev_getI gf_RX12_7 dd_X12_count_91 ht (by decide) ?_
      exact ev_iret dd_X12_count_94 rfl (Nat.le_of_ble_eq_true rfl) rfl
    refine ev_it (fun hs4 => ?_) (fun hs4 => ?_)
    · refine ev_tabIn (off := 72) (tgt := 95) dd_X12_count_23 3 hs4 (by decide +kernel) ?_
      refine ev_lv (lv' := [(0, .ref (G.2.1 + t))]) [0] rfl ?_
      refine ev_aload_n dd_X12_count_95 0 rfl ?_
      refine ev_lv (lv' := []) [] rfl ?_
      refine ev_getR gf_RX12_87 dd_X12_count_96 ht (by decide) ?_
      refine ev_bipush (v := 72) dd_X12_count_99 (by decide) ?_
      refine ev_iald dd_X12_count_101 ((zg_12_47 ht).1) ((zg_12_47 ht).2) ?_
      exact ev_iret dd_X12_count_102 rfl (Nat.le_of_ble_eq_true rfl) rfl
    refine ev_it (fun hs5 => ?_) (fun hs5 => ?_)
    · refine ev_tabIn (off := 80) (tgt := 103) dd_X12_count_23 4 hs5 (by decide +kernel) ?_
      refine ev_lv (lv' := [(0, .ref (G.2.1 + t))]) [0] rfl ?_
      refine ev_aload_n dd_X12_count_103 0 rfl ?_
      refine ev_lv (lv' := []) [] rfl ?_
      refine ev_getI gf_RX12_329 dd_X12_count_104 ht (by decide) ?_
      exact ev_iret dd_X12_count_107 rfl (Nat.le_of_ble_eq_true rfl) rfl
    refine ev_it (fun hs6 => ?_) (fun hs6 => ?_)
    · refine ev_tabIn (off := 85) (tgt := 108) dd_X12_count_23 5 hs6 (by decide +kernel) ?_
      refine ev_lv (lv' := [(0, .ref (G.2.1 + t))]) [0] rfl ?_
      refine ev_aload_n dd_X12_count_108 0 rfl ?_
      refine ev_lv (lv' := []) [] rfl ?_
      refine ev_getI gf_RX12_332 dd_X12_count_109 ht (by decide) ?_
      exact ev_iret dd_X12_count_112 rfl (Nat.le_of_ble_eq_true rfl) rfl
    refine ev_it (fun hs7 => ?_) (fun hs7 => ?_)
    · refine ev_tabIn (off := 90) (tgt := 113) dd_X12_count_23 6 hs7 (by decide +kernel) ?_
      refine ev_lv (lv' := [(0, .ref (G.2.1 + t))]) [0] rfl ?_
      refine ev_aload_n dd_X12_count_113 0 rfl ?_
      refine ev_lv (lv' := []) [] rfl ?_
      refine ev_getI gf_RX12_156 dd_X12_count_114 ht (by decide) ?_
      exact ev_iret dd_X12_count_117 rfl (Nat.le_of_ble_eq_true rfl) rfl
    refine ev_it (fun hs8 => ?_) (fun hs8 => ?_)
    · refine ev_tabIn (off := 100) (tgt := 123) dd_X12_count_23 7 hs8 (by decide +kernel) ?_
      refine ev_aload_n dd_X12_count_123 0 rfl ?_
      refine ev_lv (lv' := [(1, .int a1)]) [1] rfl ?_
      refine ev_getR gf_RX12_50 dd_X12_count_124 ht (by decide) ?_
      refine ev_iload_n dd_X12_count_127 0 rfl ?_
      refine ev_lv (lv' := []) [] rfl ?_
      refine ev_bipush (v := 7) dd_X12_count_128 (by decide) ?_
      refine ev_isub dd_X12_count_130 ?_
      refine ev_iald dd_X12_count_131 ((zg_12_18 ht).1) ((zg_12_18 ht).2) ?_
      exact ev_iret dd_X12_count_132 rfl (Nat.le_of_ble_eq_true rfl) rfl
    refine ev_it (fun hs9 => ?_) (fun hs9 => ?_)
    · refine ev_tabIn (off := 100) (tgt := 123) dd_X12_count_23 8 hs9 (by decide +kernel) ?_
      refine ev_aload_n dd_X12_count_123 0 rfl ?_
      refine ev_lv (lv' := [(1, .int a1)]) [1] rfl ?_
      refine ev_getR gf_RX12_50 dd_X12_count_124 ht (by decide) ?_
      refine ev_iload_n dd_X12_count_127 0 rfl ?_
      refine ev_lv (lv' := []) [] rfl ?_
      refine ev_bipush (v := 7) dd_X12_count_128 (by decide) ?_
      refine ev_isub dd_X12_count_130 ?_
      refine ev_iald dd_X12_count_131 ((zg_12_18 ht).1) ((zg_12_18 ht).2) ?_
      exact ev_iret dd_X12_count_132 rfl (Nat.le_of_ble_eq_true rfl) rfl
    refine ev_it (fun hs10 => ?_) (fun hs10 => ?_)
    · refine ev_tabIn (off := 100) (tgt := 123) dd_X12_count_23 9 hs10 (by decide +kernel) ?_
      refine ev_aload_n dd_X12_count_123 0 rfl ?_
      refine ev_lv (lv' := [(1, .int a1)]) [1] rfl ?_
      refine ev_getR gf_RX12_50 dd_X12_count_124 ht (by decide) ?_
      refine ev_iload_n dd_X12_count_127 0 rfl ?_
      refine ev_lv (lv' := []) [] rfl ?_
      refine ev_bipush (v := 7) dd_X12_count_128 (by decide) ?_
      refine ev_isub dd_X12_count_130 ?_
      refine ev_iald dd_X12_count_131 ((zg_12_18 ht).1) ((zg_12_18 ht).2) ?_
      exact ev_iret dd_X12_count_132 rfl (Nat.le_of_ble_eq_true rfl) rfl
    refine ev_it (fun hs11 => ?_) (fun hs11 => ?_)
    · refine ev_tabIn (off := 95) (tgt := 118) dd_X12_count_23 10 hs11 (by decide +kernel) ?_
      refine ev_lv (lv' := [(0, .ref (G.2.1 + t))]) [0] rfl ?_
      refine ev_aload_n dd_X12_count_118 0 rfl ?_
      refine ev_lv (lv' := []) [] rfl ?_
      refine ev_callVI (As := []) cl_RX12_343 (ct_X12_atHome l hl G t ht M3) dd_X12_count_119 ht (by decide) (Nat.le_of_ble_eq_true rfl) (Nat.le_of_ble_eq_true rfl) rfl rfl (fun r3 M4 => ?_)
      exact ev_iret dd_X12_count_122 rfl (Nat.le_of_ble_eq_true rfl) rfl
    refine ev_tabOut (tgt := 123) dd_X12_count_23 (by have e0 := i32ne hs1 (n := 0) (by decide); have e1 := i32ne hs2 (n := 1) (by decide); have e2 := i32ne hs3 (n := 2) (by decide); have e3 := i32ne hs4 (n := 3) (by decide); have e4 := i32ne hs5 (n := 4) (by decide); have e5 := i32ne hs6 (n := 5) (by decide); have e6 := i32ne hs7 (n := 6) (by decide); have e7 := i32ne hs8 (n := 7) (by decide); have e8 := i32ne hs9 (n := 8) (by decide); have e9 := i32ne hs10 (n := 9) (by decide); have e10 := i32ne hs11 (n := 10) (by decide); omega) (by decide) ?_
    refine ev_aload_n dd_X12_count_123 0 rfl ?_
    refine ev_lv (lv' := [(1, .int a1)]) [1] rfl ?_
    refine ev_getR gf_RX12_50 dd_X12_count_124 ht (by decide) ?_
    refine ev_iload_n dd_X12_count_127 0 rfl ?_
    refine ev_lv (lv' := []) [] rfl ?_
    refine ev_bipush (v := 7) dd_X12_count_128 (by decide) ?_
    refine ev_isub dd_X12_count_130 ?_
    refine ev_iald dd_X12_count_131 ((zg_12_18 ht).1) ((zg_12_18 ht).2) ?_
    exact ev_iret dd_X12_count_132 rfl (Nat.le_of_ble_eq_true rfl) rfl
  · refine ev_lv (lv' := []) [] rfl ?_
    refine ev_iconst (v := 0) dd_X12_count_20 (by decide) ?_
    exact ev_iret dd_X12_count_21 rfl (Nat.le_of_ble_eq_true rfl) rfl
/-! X12_debt -/
theorem dd_X12_debt_0 : decode Y_X12_debt.2.1 0 = .ok (.aload_n 0, 1) := by decide +kernel
theorem dd_X12_debt_1 : decode Y_X12_debt.2.1 1 = .ok (.iconst 0, 1) := by decide +kernel
theorem dd_X12_debt_2 : decode Y_X12_debt.2.1 2 = .ok (.putfield 153, 3) := by decide +kernel
theorem dd_X12_debt_5 : decode Y_X12_debt.2.1 5 = .ok (.aload_n 0, 1) := by decide +kernel
theorem dd_X12_debt_6 : decode Y_X12_debt.2.1 6 = .ok (.iload_n 1, 1) := by decide +kernel
theorem dd_X12_debt_7 : decode Y_X12_debt.2.1 7 = .ok (.iload_n 2, 1) := by decide +kernel
theorem dd_X12_debt_8 : decode Y_X12_debt.2.1 8 = .ok (.invokevirtual 357, 3) := by decide +kernel
theorem dd_X12_debt_11 : decode Y_X12_debt.2.1 11 = .ok (.ifCond .eq 20, 3) := by decide +kernel
theorem dd_X12_debt_14 : decode Y_X12_debt.2.1 14 = .ok (.aload_n 0, 1) := by decide +kernel
theorem dd_X12_debt_15 : decode Y_X12_debt.2.1 15 = .ok (.getfield 87, 3) := by decide +kernel
theorem dd_X12_debt_18 : decode Y_X12_debt.2.1 18 = .ok (.bipush 8, 2) := by decide +kernel
theorem dd_X12_debt_20 : decode Y_X12_debt.2.1 20 = .ok (.bipush 8, 2) := by decide +kernel
theorem dd_X12_debt_22 : decode Y_X12_debt.2.1 22 = .ok (.iload_n 1, 1) := by decide +kernel
theorem dd_X12_debt_23 : decode Y_X12_debt.2.1 23 = .ok (.imul, 1) := by decide +kernel
theorem dd_X12_debt_24 : decode Y_X12_debt.2.1 24 = .ok (.iadd, 1) := by decide +kernel
theorem dd_X12_debt_25 : decode Y_X12_debt.2.1 25 = .ok (.iload_n 2, 1) := by decide +kernel
theorem dd_X12_debt_26 : decode Y_X12_debt.2.1 26 = .ok (.iadd, 1) := by decide +kernel
theorem dd_X12_debt_27 : decode Y_X12_debt.2.1 27 = .ok (.iaload, 1) := by decide +kernel
theorem dd_X12_debt_28 : decode Y_X12_debt.2.1 28 = .ok (.goto 4, 3) := by decide +kernel
theorem dd_X12_debt_31 : decode Y_X12_debt.2.1 31 = .ok (.iconst 0, 1) := by decide +kernel
theorem dd_X12_debt_32 : decode Y_X12_debt.2.1 32 = .ok (.ireturn, 1) := by decide +kernel
def F_X12_debt (t : Nat) (a1 : Int32) (a2 : Int32) (M : zM) : zO := zst (zup M t 0 0) (fun M1 => zbI (F_X12_areTwo t a1 a2 M1) (fun r1 M2 => zjo (fun (w1 : Int32) (M3 : zM) => zI w1 M3) (fun (k1 : Int32 → zM → zO) => zit (r1 = 0) (k1 0 M2) (zck (zin ((8 + (8 * a1)) + a2) 73) (k1 (M2 (zgr t 47) (zix ((8 + (8 * a1)) + a2))) M2)))))
set_option maxHeartbeats 1000000 in
set_option maxRecDepth 20000 in
theorem ct_X12_debt (l : Launch) (hl : l.stackTraces = false) (G : zG) (t : Nat) (ht : zsh t = 12) (a1 : Int32) (a2 : Int32) (M : zM) : zMt l G Y_X12_debt 4 [.ref (G.2.1 + t), .int a1, .int a2] M (F_X12_debt t a1 a2 M) := by
  refine zMt_of (by decide +kernel) (Nat.le_of_ble_eq_true rfl) ?_
  show zEv l G Y_X12_debt 4 0 0 [(0, .ref (G.2.1 + t)), (1, .int a1), (2, .int a2)] [] M (zst (zup M t 0 0) (fun M1 => zbI (F_X12_areTwo t a1 a2 M1) (fun r1 M2 => zjo (fun (w1 : Int32) (M3 : zM) => zI w1 M3) (fun (k1 : Int32 → zM → zO) => zit (r1 = 0) (k1 0 M2) (zck (zin ((8 + (8 * a1)) + a2) 73) (k1 (M2 (zgr t 47) (zix ((8 + (8 * a1)) + a2))) M2))))))
  refine ev_aload_n dd_X12_debt_0 0 rfl ?_
  refine ev_iconst (v := 0) dd_X12_debt_1 (by decide) ?_
  refine ev_putI gw_RX12_153 dd_X12_debt_2 ht (by decide) ?_
  refine ev_st (fun M1 => ?_)
  refine ev_aload_n dd_X12_debt_5 0 rfl ?_
  refine ev_iload_n dd_X12_debt_6 1 rfl ?_
  refine ev_iload_n dd_X12_debt_7 2 rfl ?_
  refine ev_callVI (As := [.int a1, .int a2]) cl_RX12_357 (ct_X12_areTwo l hl G t ht a1 a2 M1) dd_X12_debt_8 ht (by decide) (Nat.le_of_ble_eq_true rfl) (Nat.le_of_ble_eq_true rfl) rfl rfl (fun r1 M2 => ?_)
  refine ev_jo (fun (k1 : Int32 → zM → zO) => ∀ (w1 : Int32) (M3 : zM), zEv l G Y_X12_debt 4 0 32 [] [.int w1] M3 (k1 w1 M3)) ?_ (fun k1 hk1 => ?_)
  · intro w1 M3
    exact ev_iret dd_X12_debt_32 rfl (Nat.le_of_ble_eq_true rfl) rfl
  · refine ev_if_eq 31 dd_X12_debt_11 (by decide) ?_ ?_
    · refine ev_lv (lv' := []) [] rfl ?_
      refine ev_iconst (v := 0) dd_X12_debt_31 (by decide) ?_
      exact hk1 _ _
    · refine ev_aload_n dd_X12_debt_14 0 rfl ?_
      refine ev_lv (lv' := [(1, .int a1), (2, .int a2)]) [1, 2] rfl ?_
      refine ev_getR gf_RX12_87 dd_X12_debt_15 ht (by decide) ?_
      refine ev_bipush (v := 8) dd_X12_debt_18 (by decide) ?_
      refine ev_bipush (v := 8) dd_X12_debt_20 (by decide) ?_
      refine ev_iload_n dd_X12_debt_22 0 rfl ?_
      refine ev_lv (lv' := [(2, .int a2)]) [1] rfl ?_
      refine ev_imul dd_X12_debt_23 ?_
      refine ev_iadd dd_X12_debt_24 ?_
      refine ev_iload_n dd_X12_debt_25 0 rfl ?_
      refine ev_lv (lv' := []) [] rfl ?_
      refine ev_iadd dd_X12_debt_26 ?_
      refine ev_iald dd_X12_debt_27 ((zg_12_47 ht).1) ((zg_12_47 ht).2) ?_
      refine ev_goto 32 dd_X12_debt_28 (by decide) ?_
      exact hk1 _ _
/-! X12_isSign -/
theorem dd_X12_isSign_0 : decode Y_X12_isSign.2.1 0 = .ok (.aload_n 0, 1) := by decide +kernel
theorem dd_X12_isSign_1 : decode Y_X12_isSign.2.1 1 = .ok (.getfield 186, 3) := by decide +kernel
theorem dd_X12_isSign_4 : decode Y_X12_isSign.2.1 4 = .ok (.iconst 3, 1) := by decide +kernel
theorem dd_X12_isSign_5 : decode Y_X12_isSign.2.1 5 = .ok (.if_icmp .ne 15, 3) := by decide +kernel
theorem dd_X12_isSign_8 : decode Y_X12_isSign.2.1 8 = .ok (.aload_n 0, 1) := by decide +kernel
theorem dd_X12_isSign_9 : decode Y_X12_isSign.2.1 9 = .ok (.getfield 183, 3) := by decide +kernel
theorem dd_X12_isSign_12 : decode Y_X12_isSign.2.1 12 = .ok (.iload_n 1, 1) := by decide +kernel
theorem dd_X12_isSign_13 : decode Y_X12_isSign.2.1 13 = .ok (.if_icmp .ne 7, 3) := by decide +kernel
theorem dd_X12_isSign_16 : decode Y_X12_isSign.2.1 16 = .ok (.iconst 1, 1) := by decide +kernel
theorem dd_X12_isSign_17 : decode Y_X12_isSign.2.1 17 = .ok (.goto 4, 3) := by decide +kernel
theorem dd_X12_isSign_20 : decode Y_X12_isSign.2.1 20 = .ok (.iconst 0, 1) := by decide +kernel
theorem dd_X12_isSign_21 : decode Y_X12_isSign.2.1 21 = .ok (.ireturn, 1) := by decide +kernel
def F_X12_isSign (t : Nat) (a1 : Int32) (M : zM) : zO := zjo (fun (w1 : Int32) (M2 : zM) => zck (zbo w1) (zI w1 M2)) (fun (k1 : Int32 → zM → zO) => zjo (fun  (M1 : zM) => k1 0 M1) (fun (k2 : zM → zO) => zit ((M t 21) = 3) (zit ((M t 25) = a1) (k1 1 M) (k2 M)) (k2 M)))
set_option maxHeartbeats 1000000 in
set_option maxRecDepth 20000 in
theorem ct_X12_isSign (l : Launch) (hl : l.stackTraces = false) (G : zG) (t : Nat) (ht : zsh t = 12) (a1 : Int32) (M : zM) : zMt l G Y_X12_isSign 1 [.ref (G.2.1 + t), .int a1] M (F_X12_isSign t a1 M) := by
  refine zMt_of (by decide +kernel) (Nat.le_of_ble_eq_true rfl) ?_
  show zEv l G Y_X12_isSign 1 0 0 [(0, .ref (G.2.1 + t)), (1, .int a1)] [] M (zjo (fun (w1 : Int32) (M2 : zM) => zck (zbo w1) (zI w1 M2)) (fun (k1 : Int32 → zM → zO) => zjo (fun  (M1 : zM) => k1 0 M1) (fun (k2 : zM → zO) => zit ((M t 21) = 3) (zit ((M t 25) = a1) (k1 1 M) (k2 M)) (k2 M))))
  refine ev_aload_n dd_X12_isSign_0 0 rfl ?_
  refine ev_getI gf_RX12_186 dd_X12_isSign_1 ht (by decide) ?_
  refine ev_iconst (v := 3) dd_X12_isSign_4 (by decide) ?_
  refine ev_jo (fun (k1 : Int32 → zM → zO) => ∀ (w1 : Int32) (M2 : zM), zEv l G Y_X12_isSign 1 0 21 [] [.int w1] M2 (k1 w1 M2)) ?_ (fun k1 hk1 => ?_)
  · intro w1 M2
    exact ev_zret dd_X12_isSign_21 rfl (Nat.le_of_ble_eq_true rfl) rfl
  · refine ev_jo (fun (k2 : zM → zO) => ∀  (M1 : zM), zEv l G Y_X12_isSign 1 0 20 [] [] M1 (k2 M1)) ?_ (fun k2 hk2 => ?_)
    · intro M1
      refine ev_iconst (v := 0) dd_X12_isSign_20 (by decide) ?_
      exact hk1 _ _
    · refine ev_icmp_ne 20 dd_X12_isSign_5 (by decide) ?_ ?_
      · refine ev_lv (lv' := []) [] rfl ?_
        exact hk2 _
      · refine ev_aload_n dd_X12_isSign_8 0 rfl ?_
        refine ev_lv (lv' := [(1, .int a1)]) [1] rfl ?_
        refine ev_getI gf_RX12_183 dd_X12_isSign_9 ht (by decide) ?_
        refine ev_iload_n dd_X12_isSign_12 0 rfl ?_
        refine ev_lv (lv' := []) [] rfl ?_
        refine ev_icmp_ne 20 dd_X12_isSign_13 (by decide) ?_ ?_
        · exact hk2 _
        · refine ev_iconst (v := 1) dd_X12_isSign_16 (by decide) ?_
          refine ev_goto 21 dd_X12_isSign_17 (by decide) ?_
          exact hk1 _ _
/-! X12_wrong -/
theorem dd_X12_wrong_0 : decode Y_X12_wrong.2.1 0 = .ok (.aload_n 0, 1) := by decide +kernel
theorem dd_X12_wrong_1 : decode Y_X12_wrong.2.1 1 = .ok (.getfield 209, 3) := by decide +kernel
theorem dd_X12_wrong_4 : decode Y_X12_wrong.2.1 4 = .ok (.ifCond .eq 4, 3) := by decide +kernel
theorem dd_X12_wrong_7 : decode Y_X12_wrong.2.1 7 = .ok (.return_, 1) := by decide +kernel
theorem dd_X12_wrong_8 : decode Y_X12_wrong.2.1 8 = .ok (.aload_n 0, 1) := by decide +kernel
theorem dd_X12_wrong_9 : decode Y_X12_wrong.2.1 9 = .ok (.iload_n 1, 1) := by decide +kernel
theorem dd_X12_wrong_10 : decode Y_X12_wrong.2.1 10 = .ok (.putfield 209, 3) := by decide +kernel
theorem dd_X12_wrong_13 : decode Y_X12_wrong.2.1 13 = .ok (.aload_n 0, 1) := by decide +kernel
theorem dd_X12_wrong_14 : decode Y_X12_wrong.2.1 14 = .ok (.aload_n 0, 1) := by decide +kernel
theorem dd_X12_wrong_15 : decode Y_X12_wrong.2.1 15 = .ok (.getfield 173, 3) := by decide +kernel
theorem dd_X12_wrong_18 : decode Y_X12_wrong.2.1 18 = .ok (.putfield 47, 3) := by decide +kernel
theorem dd_X12_wrong_21 : decode Y_X12_wrong.2.1 21 = .ok (.return_, 1) := by decide +kernel
def F_X12_wrong (t : Nat) (a1 : Int32) (M : zM) : zO := zit ((M t 16) = 0) (zst (zup M t 16 a1) (fun M1 => zst (zup M1 t 17 (M1 t 22)) (fun M2 => zV M2))) (zV M)
set_option maxHeartbeats 1000000 in
set_option maxRecDepth 20000 in
theorem ct_X12_wrong (l : Launch) (hl : l.stackTraces = false) (G : zG) (t : Nat) (ht : zsh t = 12) (a1 : Int32) (M : zM) : zMt l G Y_X12_wrong 1 [.ref (G.2.1 + t), .int a1] M (F_X12_wrong t a1 M) := by
  refine zMt_of (by decide +kernel) (Nat.le_of_ble_eq_true rfl) ?_
  show zEv l G Y_X12_wrong 1 0 0 [(0, .ref (G.2.1 + t)), (1, .int a1)] [] M (zit ((M t 16) = 0) (zst (zup M t 16 a1) (fun M1 => zst (zup M1 t 17 (M1 t 22)) (fun M2 => zV M2))) (zV M))
  refine ev_aload_n dd_X12_wrong_0 0 rfl ?_
  refine ev_getI gf_RX12_209 dd_X12_wrong_1 ht (by decide) ?_
  refine ev_if_eq 8 dd_X12_wrong_4 (by decide) ?_ ?_
  · refine ev_aload_n dd_X12_wrong_8 0 rfl ?_
    refine ev_iload_n dd_X12_wrong_9 1 rfl ?_
    refine ev_lv (lv' := [(0, .ref (G.2.1 + t))]) [0] rfl ?_
    refine ev_putI gw_RX12_209 dd_X12_wrong_10 ht (by decide) ?_
    refine ev_st (fun M1 => ?_)
    refine ev_aload_n dd_X12_wrong_13 0 rfl ?_
    refine ev_aload_n dd_X12_wrong_14 0 rfl ?_
    refine ev_lv (lv' := []) [] rfl ?_
    refine ev_getI gf_RX12_173 dd_X12_wrong_15 ht (by decide) ?_
    refine ev_putI gw_RX12_47 dd_X12_wrong_18 ht (by decide) ?_
    refine ev_st (fun M2 => ?_)
    exact ev_vret dd_X12_wrong_21 rfl (Nat.le_of_ble_eq_true rfl) rfl
  · refine ev_lv (lv' := []) [] rfl ?_
    exact ev_vret dd_X12_wrong_7 rfl (Nat.le_of_ble_eq_true rfl) rfl
/-! X12_deeper -/
theorem dd_X12_deeper_0 : decode Y_X12_deeper.2.1 0 = .ok (.aload_n 0, 1) := by decide +kernel
theorem dd_X12_deeper_1 : decode Y_X12_deeper.2.1 1 = .ok (.getfield 244, 3) := by decide +kernel
theorem dd_X12_deeper_4 : decode Y_X12_deeper.2.1 4 = .ok (.bipush 6, 2) := by decide +kernel
theorem dd_X12_deeper_6 : decode Y_X12_deeper.2.1 6 = .ok (.if_icmp .ge 24, 3) := by decide +kernel
theorem dd_X12_deeper_9 : decode Y_X12_deeper.2.1 9 = .ok (.aload_n 0, 1) := by decide +kernel
theorem dd_X12_deeper_10 : decode Y_X12_deeper.2.1 10 = .ok (.dup, 1) := by decide +kernel
theorem dd_X12_deeper_11 : decode Y_X12_deeper.2.1 11 = .ok (.getfield 244, 3) := by decide +kernel
theorem dd_X12_deeper_14 : decode Y_X12_deeper.2.1 14 = .ok (.iconst 1, 1) := by decide +kernel
theorem dd_X12_deeper_15 : decode Y_X12_deeper.2.1 15 = .ok (.iadd, 1) := by decide +kernel
theorem dd_X12_deeper_16 : decode Y_X12_deeper.2.1 16 = .ok (.putfield 244, 3) := by decide +kernel
theorem dd_X12_deeper_19 : decode Y_X12_deeper.2.1 19 = .ok (.aload_n 0, 1) := by decide +kernel
theorem dd_X12_deeper_20 : decode Y_X12_deeper.2.1 20 = .ok (.getfield 83, 3) := by decide +kernel
theorem dd_X12_deeper_23 : decode Y_X12_deeper.2.1 23 = .ok (.aload_n 0, 1) := by decide +kernel
theorem dd_X12_deeper_24 : decode Y_X12_deeper.2.1 24 = .ok (.getfield 244, 3) := by decide +kernel
theorem dd_X12_deeper_27 : decode Y_X12_deeper.2.1 27 = .ok (.iconst 0, 1) := by decide +kernel
theorem dd_X12_deeper_28 : decode Y_X12_deeper.2.1 28 = .ok (.bastore, 1) := by decide +kernel
theorem dd_X12_deeper_29 : decode Y_X12_deeper.2.1 29 = .ok (.return_, 1) := by decide +kernel
theorem dd_X12_deeper_30 : decode Y_X12_deeper.2.1 30 = .ok (.aload_n 0, 1) := by decide +kernel
theorem dd_X12_deeper_31 : decode Y_X12_deeper.2.1 31 = .ok (.aload_n 0, 1) := by decide +kernel
theorem dd_X12_deeper_32 : decode Y_X12_deeper.2.1 32 = .ok (.getfield 186, 3) := by decide +kernel
theorem dd_X12_deeper_35 : decode Y_X12_deeper.2.1 35 = .ok (.iconst 2, 1) := by decide +kernel
theorem dd_X12_deeper_36 : decode Y_X12_deeper.2.1 36 = .ok (.if_icmp .eq 20, 3) := by decide +kernel
theorem dd_X12_deeper_39 : decode Y_X12_deeper.2.1 39 = .ok (.aload_n 0, 1) := by decide +kernel
theorem dd_X12_deeper_40 : decode Y_X12_deeper.2.1 40 = .ok (.getfield 186, 3) := by decide +kernel
theorem dd_X12_deeper_43 : decode Y_X12_deeper.2.1 43 = .ok (.iconst 1, 1) := by decide +kernel
theorem dd_X12_deeper_44 : decode Y_X12_deeper.2.1 44 = .ok (.if_icmp .eq 12, 3) := by decide +kernel
theorem dd_X12_deeper_47 : decode Y_X12_deeper.2.1 47 = .ok (.aload_n 0, 1) := by decide +kernel
theorem dd_X12_deeper_48 : decode Y_X12_deeper.2.1 48 = .ok (.bipush 40, 2) := by decide +kernel
theorem dd_X12_deeper_50 : decode Y_X12_deeper.2.1 50 = .ok (.invokevirtual 247, 3) := by decide +kernel
theorem dd_X12_deeper_53 : decode Y_X12_deeper.2.1 53 = .ok (.ifCond .eq 7, 3) := by decide +kernel
theorem dd_X12_deeper_56 : decode Y_X12_deeper.2.1 56 = .ok (.iconst 2, 1) := by decide +kernel
theorem dd_X12_deeper_57 : decode Y_X12_deeper.2.1 57 = .ok (.goto 4, 3) := by decide +kernel
theorem dd_X12_deeper_60 : decode Y_X12_deeper.2.1 60 = .ok (.iconst 1, 1) := by decide +kernel
theorem dd_X12_deeper_61 : decode Y_X12_deeper.2.1 61 = .ok (.invokevirtual 219, 3) := by decide +kernel
theorem dd_X12_deeper_64 : decode Y_X12_deeper.2.1 64 = .ok (.return_, 1) := by decide +kernel
def F_X12_deeper (t : Nat) (M : zM) : zO := zit (6 ≤ (M t 35)) (zjo (fun (w1 : Int32) (M3 : zM) => zbV (F_X12_wrong t w1 M3) (fun M4 => zV M4)) (fun (k1 : Int32 → zM → zO) => zjo (fun  (M2 : zM) => k1 2 M2) (fun (k2 : zM → zO) => zit ((M t 21) = 2) (k2 M) (zit ((M t 21) = 1) (k2 M) (zbI (F_X12_isSign t 40 M) (fun r1 M1 => zit (r1 = 0) (k1 1 M1) (k2 M1))))))) (zst (zup M t 35 ((M t 35) + 1)) (fun M5 => zck (zin (M5 t 35) 9 && zbo 0) (zst (zup M5 (zgr t 46) (zix (M5 t 35)) 0) (fun M6 => zV M6))))
set_option maxHeartbeats 1000000 in
set_option maxRecDepth 20000 in
theorem ct_X12_deeper (l : Launch) (hl : l.stackTraces = false) (G : zG) (t : Nat) (ht : zsh t = 12) (M : zM) : zMt l G Y_X12_deeper 2 [.ref (G.2.1 + t)] M (F_X12_deeper t M) := by
  refine zMt_of (by decide +kernel) (Nat.le_of_ble_eq_true rfl) ?_
  show zEv l G Y_X12_deeper 2 0 0 [(0, .ref (G.2.1 + t))] [] M (zit (6 ≤ (M t 35)) (zjo (fun (w1 : Int32) (M3 : zM) => zbV (F_X12_wrong t w1 M3) (fun M4 => zV M4)) (fun (k1 : Int32 → zM → zO) => zjo (fun  (M2 : zM) => k1 2 M2) (fun (k2 : zM → zO) => zit ((M t 21) = 2) (k2 M) (zit ((M t 21) = 1) (k2 M) (zbI (F_X12_isSign t 40 M) (fun r1 M1 => zit (r1 = 0) (k1 1 M1) (k2 M1))))))) (zst (zup M t 35 ((M t 35) + 1)) (fun M5 => zck (zin (M5 t 35) 9 && zbo 0) (zst (zup M5 (zgr t 46) (zix (M5 t 35)) 0) (fun M6 => zV M6)))))
  refine ev_aload_n dd_X12_deeper_0 0 rfl ?_
  refine ev_getI gf_RX12_244 dd_X12_deeper_1 ht (by decide) ?_
  refine ev_bipush (v := 6) dd_X12_deeper_4 (by decide) ?_
  refine ev_icmp_ge 30 dd_X12_deeper_6 (by decide) ?_ ?_
  · refine ev_aload_n dd_X12_deeper_30 0 rfl ?_
    refine ev_aload_n dd_X12_deeper_31 0 rfl ?_
    refine ev_getI gf_RX12_186 dd_X12_deeper_32 ht (by decide) ?_
    refine ev_iconst (v := 2) dd_X12_deeper_35 (by decide) ?_
    refine ev_jo (fun (k1 : Int32 → zM → zO) => ∀ (w1 : Int32) (M3 : zM), zEv l G Y_X12_deeper 2 0 61 [] [.int w1, .ref (G.2.1 + t)] M3 (k1 w1 M3)) ?_ (fun k1 hk1 => ?_)
    · intro w1 M3
      refine ev_callVV (As := [.int w1]) cl_RX12_219 (ct_X12_wrong l hl G t ht w1 M3) dd_X12_deeper_61 ht (by decide) (Nat.le_of_ble_eq_true rfl) (Nat.le_of_ble_eq_true rfl) rfl rfl (fun M4 => ?_)
      exact ev_vret dd_X12_deeper_64 rfl (Nat.le_of_ble_eq_true rfl) rfl
    · refine ev_jo (fun (k2 : zM → zO) => ∀  (M2 : zM), zEv l G Y_X12_deeper 2 0 56 [] [.ref (G.2.1 + t)] M2 (k2 M2)) ?_ (fun k2 hk2 => ?_)
      · intro M2
        refine ev_iconst (v := 2) dd_X12_deeper_56 (by decide) ?_
        refine ev_goto 61 dd_X12_deeper_57 (by decide) ?_
        exact hk1 _ _
      · refine ev_icmp_eq 56 dd_X12_deeper_36 (by decide) ?_ ?_
        · refine ev_lv (lv' := []) [] rfl ?_
          exact hk2 _
        · refine ev_aload_n dd_X12_deeper_39 0 rfl ?_
          refine ev_getI gf_RX12_186 dd_X12_deeper_40 ht (by decide) ?_
          refine ev_iconst (v := 1) dd_X12_deeper_43 (by decide) ?_
          refine ev_icmp_eq 56 dd_X12_deeper_44 (by decide) ?_ ?_
          · refine ev_lv (lv' := []) [] rfl ?_
            exact hk2 _
          · refine ev_aload_n dd_X12_deeper_47 0 rfl ?_
            refine ev_lv (lv' := []) [] rfl ?_
            refine ev_bipush (v := 40) dd_X12_deeper_48 (by decide) ?_
            refine ev_callVI (As := [.int 40]) cl_RX12_247 (ct_X12_isSign l hl G t ht 40 M) dd_X12_deeper_50 ht (by decide) (Nat.le_of_ble_eq_true rfl) (Nat.le_of_ble_eq_true rfl) rfl rfl (fun r1 M1 => ?_)
            refine ev_if_eq 60 dd_X12_deeper_53 (by decide) ?_ ?_
            · refine ev_iconst (v := 1) dd_X12_deeper_60 (by decide) ?_
              exact hk1 _ _
            · exact hk2 _
  · refine ev_aload_n dd_X12_deeper_9 0 rfl ?_
    refine ev_dup dd_X12_deeper_10 rfl ?_
    refine ev_getI gf_RX12_244 dd_X12_deeper_11 ht (by decide) ?_
    refine ev_iconst (v := 1) dd_X12_deeper_14 (by decide) ?_
    refine ev_iadd dd_X12_deeper_15 ?_
    refine ev_putI gw_RX12_244 dd_X12_deeper_16 ht (by decide) ?_
    refine ev_st (fun M5 => ?_)
    refine ev_aload_n dd_X12_deeper_19 0 rfl ?_
    refine ev_getR gf_RX12_83 dd_X12_deeper_20 ht (by decide) ?_
    refine ev_aload_n dd_X12_deeper_23 0 rfl ?_
    refine ev_lv (lv' := []) [] rfl ?_
    refine ev_getI gf_RX12_244 dd_X12_deeper_24 ht (by decide) ?_
    refine ev_iconst (v := 0) dd_X12_deeper_27 (by decide) ?_
    refine ev_zast dd_X12_deeper_28 ((zg_12_46 ht).1) ((zg_12_46 ht).2) ?_
    refine ev_st (fun M6 => ?_)
    exact ev_vret dd_X12_deeper_29 rfl (Nat.le_of_ble_eq_true rfl) rfl
/-! X12_isGood -/
theorem dd_X12_isGood_0 : decode Y_X12_isGood.2.1 0 = .ok (.aload_n 0, 1) := by decide +kernel
theorem dd_X12_isGood_1 : decode Y_X12_isGood.2.1 1 = .ok (.getfield 209, 3) := by decide +kernel
theorem dd_X12_isGood_4 : decode Y_X12_isGood.2.1 4 = .ok (.ifCond .ne 7, 3) := by decide +kernel
theorem dd_X12_isGood_7 : decode Y_X12_isGood.2.1 7 = .ok (.iconst 1, 1) := by decide +kernel
theorem dd_X12_isGood_8 : decode Y_X12_isGood.2.1 8 = .ok (.goto 4, 3) := by decide +kernel
theorem dd_X12_isGood_11 : decode Y_X12_isGood.2.1 11 = .ok (.iconst 0, 1) := by decide +kernel
theorem dd_X12_isGood_12 : decode Y_X12_isGood.2.1 12 = .ok (.ireturn, 1) := by decide +kernel
def F_X12_isGood (t : Nat) (M : zM) : zO := zjo (fun (w1 : Int32) (M1 : zM) => zck (zbo w1) (zI w1 M1)) (fun (k1 : Int32 → zM → zO) => zit ((M t 16) = 0) (k1 1 M) (k1 0 M))
set_option maxHeartbeats 1000000 in
set_option maxRecDepth 20000 in
theorem ct_X12_isGood (l : Launch) (hl : l.stackTraces = false) (G : zG) (t : Nat) (ht : zsh t = 12) (M : zM) : zMt l G Y_X12_isGood 1 [.ref (G.2.1 + t)] M (F_X12_isGood t M) := by
  refine zMt_of (by decide +kernel) (Nat.le_of_ble_eq_true rfl) ?_
  show zEv l G Y_X12_isGood 1 0 0 [(0, .ref (G.2.1 + t))] [] M (zjo (fun (w1 : Int32) (M1 : zM) => zck (zbo w1) (zI w1 M1)) (fun (k1 : Int32 → zM → zO) => zit ((M t 16) = 0) (k1 1 M) (k1 0 M)))
  refine ev_aload_n dd_X12_isGood_0 0 rfl ?_
  refine ev_lv (lv' := []) [] rfl ?_
  refine ev_getI gf_RX12_209 dd_X12_isGood_1 ht (by decide) ?_
  refine ev_jo (fun (k1 : Int32 → zM → zO) => ∀ (w1 : Int32) (M1 : zM), zEv l G Y_X12_isGood 1 0 12 [] [.int w1] M1 (k1 w1 M1)) ?_ (fun k1 hk1 => ?_)
  · intro w1 M1
    exact ev_zret dd_X12_isGood_12 rfl (Nat.le_of_ble_eq_true rfl) rfl
  · refine ev_if_ne 11 dd_X12_isGood_4 (by decide) ?_ ?_
    · refine ev_iconst (v := 0) dd_X12_isGood_11 (by decide) ?_
      exact hk1 _ _
    · refine ev_iconst (v := 1) dd_X12_isGood_7 (by decide) ?_
      refine ev_goto 12 dd_X12_isGood_8 (by decide) ?_
      exact hk1 _ _
/-! X12_isOpened -/
theorem dd_X12_isOpened_0 : decode Y_X12_isOpened.2.1 0 = .ok (.aload_n 0, 1) := by decide +kernel
theorem dd_X12_isOpened_1 : decode Y_X12_isOpened.2.1 1 = .ok (.getfield 228, 3) := by decide +kernel
theorem dd_X12_isOpened_4 : decode Y_X12_isOpened.2.1 4 = .ok (.iconst 1, 1) := by decide +kernel
theorem dd_X12_isOpened_5 : decode Y_X12_isOpened.2.1 5 = .ok (.isub, 1) := by decide +kernel
theorem dd_X12_isOpened_6 : decode Y_X12_isOpened.2.1 6 = .ok (.istore_n 1, 1) := by decide +kernel
theorem dd_X12_isOpened_7 : decode Y_X12_isOpened.2.1 7 = .ok (.iload_n 1, 1) := by decide +kernel
theorem dd_X12_isOpened_8 : decode Y_X12_isOpened.2.1 8 = .ok (.ifCond .lt 21, 3) := by decide +kernel
theorem dd_X12_isOpened_11 : decode Y_X12_isOpened.2.1 11 = .ok (.aload_n 0, 1) := by decide +kernel
theorem dd_X12_isOpened_12 : decode Y_X12_isOpened.2.1 12 = .ok (.getfield 80, 3) := by decide +kernel
theorem dd_X12_isOpened_15 : decode Y_X12_isOpened.2.1 15 = .ok (.iload_n 1, 1) := by decide +kernel
theorem dd_X12_isOpened_16 : decode Y_X12_isOpened.2.1 16 = .ok (.iaload, 1) := by decide +kernel
theorem dd_X12_isOpened_17 : decode Y_X12_isOpened.2.1 17 = .ok (.invokestatic 231, 3) := by decide +kernel
theorem dd_X12_isOpened_20 : decode Y_X12_isOpened.2.1 20 = .ok (.ifCond .ne 9, 3) := by decide +kernel
theorem dd_X12_isOpened_23 : decode Y_X12_isOpened.2.1 23 = .ok (.iinc 1 (-1), 3) := by decide +kernel
theorem dd_X12_isOpened_26 : decode Y_X12_isOpened.2.1 26 = .ok (.goto (-19), 3) := by decide +kernel
theorem dd_X12_isOpened_29 : decode Y_X12_isOpened.2.1 29 = .ok (.iload_n 1, 1) := by decide +kernel
theorem dd_X12_isOpened_30 : decode Y_X12_isOpened.2.1 30 = .ok (.ifCond .lt 7, 3) := by decide +kernel
theorem dd_X12_isOpened_33 : decode Y_X12_isOpened.2.1 33 = .ok (.iconst 1, 1) := by decide +kernel
theorem dd_X12_isOpened_34 : decode Y_X12_isOpened.2.1 34 = .ok (.goto 4, 3) := by decide +kernel
theorem dd_X12_isOpened_37 : decode Y_X12_isOpened.2.1 37 = .ok (.iconst 0, 1) := by decide +kernel
theorem dd_X12_isOpened_38 : decode Y_X12_isOpened.2.1 38 = .ok (.ireturn, 1) := by decide +kernel
def F_X12_isOpened_L7 (x0 : Nat) (K29 : Int32 → zM → zO) : Nat → Int32 → zM → zO
  | 0, _, _ => none
  | n + 1, x1, M => zit (x1 < 0) (K29 x1 M) (zck (zin x1 950) (zbI (F_X12_isOpen (M (zgr x0 45) (zix x1)) M) (fun r1 M1 => zit (r1 = 0) (F_X12_isOpened_L7 x0 K29 n (x1 + (-1)) M1) (K29 x1 M1))))
def F_X12_isOpened (t : Nat) (M : zM) : zO := zlt ((M t 34) - 1) (fun v1 => F_X12_isOpened_L7 t (fun (y1 : Int32) (M2 : zM) => zjo (fun (w1 : Int32) (M3 : zM) => zck (zbo w1) (zI w1 M3)) (fun (k1 : Int32 → zM → zO) => zit (y1 < 0) (k1 0 M2) (k1 1 M2))) zN v1 M)
set_option maxHeartbeats 1000000 in
set_option maxRecDepth 20000 in
theorem ct_X12_isOpened_L7 (l : Launch) (hl : l.stackTraces = false) (G : zG) (x0 : Nat) (hx0 : zsh x0 = 12) (K29 : Int32 → zM → zO) (hK29 : ∀ (x1 : Int32) (M : zM), zEv l G Y_X12_isOpened 2 0 29 [(1, .int x1)] [] M (K29 x1 M)) : ∀ (n : Nat) (x1 : Int32) (M : zM), zEv l G Y_X12_isOpened 2 0 7 [(0, .ref (G.2.1 + x0)), (1, .int x1)] [] M (F_X12_isOpened_L7 x0 K29 n x1 M) := by
  intro n
  induction n with
  | zero => intro x1 M; exact ev_none
  | succ n ih =>
    intro x1 M
    show zEv l G Y_X12_isOpened 2 0 7 [(0, .ref (G.2.1 + x0)), (1, .int x1)] [] M (zit (x1 < 0) (K29 x1 M) (zck (zin x1 950) (zbI (F_X12_isOpen (M (zgr x0 45) (zix x1)) M) (fun r1 M1 => zit (r1 = 0) (F_X12_isOpened_L7 x0 K29 n (x1 + (-1)) M1) (K29 x1 M1)))))
    refine ev_iload_n dd_X12_isOpened_7 1 rfl ?_
    refine ev_if_lt 29 dd_X12_isOpened_8 (by decide) ?_ ?_
    · refine ev_lv (lv' := [(1, .int x1)]) [1] rfl ?_
      exact hK29 _ _
    · refine ev_aload_n dd_X12_isOpened_11 0 rfl ?_
      refine ev_getR gf_RX12_80 dd_X12_isOpened_12 hx0 (by decide) ?_
      refine ev_iload_n dd_X12_isOpened_15 1 rfl ?_
      refine ev_iald dd_X12_isOpened_16 ((zg_12_45 hx0).1) ((zg_12_45 hx0).2) ?_
      refine ev_callSI (As := [.int (M (zgr x0 45) (zix x1))]) cl_RX12_231 (ct_X12_isOpen l hl G (M (zgr x0 45) (zix x1)) M) dd_X12_isOpened_17 (by decide) (Nat.le_of_ble_eq_true rfl) (Nat.le_of_ble_eq_true rfl) rfl rfl (fun r1 M1 => ?_)
      refine ev_if_ne 29 dd_X12_isOpened_20 (by decide) ?_ ?_
      · refine ev_lv (lv' := [(1, .int x1)]) [1] rfl ?_
        exact hK29 _ _
      · refine ev_iinc (j := 1) (v := (-1)) (lv' := [(0, .ref (G.2.1 + x0)), (1, .int (x1 + (-1)))]) [1, 0] dd_X12_isOpened_23 rfl (by decide) (by decide) rfl ?_
        refine ev_goto 7 dd_X12_isOpened_26 (by decide) ?_
        exact ih _ _
set_option maxHeartbeats 1000000 in
set_option maxRecDepth 20000 in
theorem ct_X12_isOpened (l : Launch) (hl : l.stackTraces = false) (G : zG) (t : Nat) (ht : zsh t = 12) (M : zM) : zMt l G Y_X12_isOpened 2 [.ref (G.2.1 + t)] M (F_X12_isOpened t M) := by
  refine zMt_of (by decide +kernel) (Nat.le_of_ble_eq_true rfl) ?_
  show zEv l G Y_X12_isOpened 2 0 0 [(0, .ref (G.2.1 + t))] [] M (zlt ((M t 34) - 1) (fun v1 => F_X12_isOpened_L7 t (fun (y1 : Int32) (M2 : zM) => zjo (fun (w1 : Int32) (M3 : zM) => zck (zbo w1) (zI w1 M3)) (fun (k1 : Int32 → zM → zO) => zit (y1 < 0) (k1 0 M2) (k1 1 M2))) zN v1 M))
  refine ev_aload_n dd_X12_isOpened_0 0 rfl ?_
  refine ev_getI gf_RX12_228 dd_X12_isOpened_1 ht (by decide) ?_
  refine ev_iconst (v := 1) dd_X12_isOpened_4 (by decide) ?_
  refine ev_isub dd_X12_isOpened_5 ?_
  refine ev_topi (fun v1 => ?_)
  refine ev_istore_n (i := 1) (lv' := [(0, .ref (G.2.1 + t)), (1, .int v1)]) [1, 0] dd_X12_isOpened_6 rfl (by decide) rfl ?_
  refine ct_X12_isOpened_L7 l hl G t ht _ (fun y1 M2 => ?_) zN _ _
  refine ev_iload_n dd_X12_isOpened_29 0 rfl ?_
  refine ev_lv (lv' := []) [] rfl ?_
  refine ev_jo (fun (k1 : Int32 → zM → zO) => ∀ (w1 : Int32) (M3 : zM), zEv l G Y_X12_isOpened 2 0 38 [] [.int w1] M3 (k1 w1 M3)) ?_ (fun k1 hk1 => ?_)
  · intro w1 M3
    exact ev_zret dd_X12_isOpened_38 rfl (Nat.le_of_ble_eq_true rfl) rfl
  · refine ev_if_lt 37 dd_X12_isOpened_30 (by decide) ?_ ?_
    · refine ev_iconst (v := 0) dd_X12_isOpened_37 (by decide) ?_
      exact hk1 _ _
    · refine ev_iconst (v := 1) dd_X12_isOpened_33 (by decide) ?_
      refine ev_goto 38 dd_X12_isOpened_34 (by decide) ?_
      exact hk1 _ _
/-! X12_spelled -/
theorem dd_X12_spelled_0 : decode Y_X12_spelled.2.1 0 = .ok (.iload_n 0, 1) := by decide +kernel
theorem dd_X12_spelled_1 : decode Y_X12_spelled.2.1 1 = .ok (.i2l, 1) := by decide +kernel
theorem dd_X12_spelled_2 : decode Y_X12_spelled.2.1 2 = .ok (.ldc2_w 199, 3) := by decide +kernel
theorem dd_X12_spelled_5 : decode Y_X12_spelled.2.1 5 = .ok (.lsub, 1) := by decide +kernel
theorem dd_X12_spelled_6 : decode Y_X12_spelled.2.1 6 = .ok (.iconst 5, 1) := by decide +kernel
theorem dd_X12_spelled_7 : decode Y_X12_spelled.2.1 7 = .ok (.lshl, 1) := by decide +kernel
theorem dd_X12_spelled_8 : decode Y_X12_spelled.2.1 8 = .ok (.iload_n 1, 1) := by decide +kernel
theorem dd_X12_spelled_9 : decode Y_X12_spelled.2.1 9 = .ok (.bipush 96, 2) := by decide +kernel
theorem dd_X12_spelled_11 : decode Y_X12_spelled.2.1 11 = .ok (.isub, 1) := by decide +kernel
theorem dd_X12_spelled_12 : decode Y_X12_spelled.2.1 12 = .ok (.i2l, 1) := by decide +kernel
theorem dd_X12_spelled_13 : decode Y_X12_spelled.2.1 13 = .ok (.lor, 1) := by decide +kernel
theorem dd_X12_spelled_14 : decode Y_X12_spelled.2.1 14 = .ok (.lstore 6, 2) := by decide +kernel
theorem dd_X12_spelled_16 : decode Y_X12_spelled.2.1 16 = .ok (.iload_n 2, 1) := by decide +kernel
theorem dd_X12_spelled_17 : decode Y_X12_spelled.2.1 17 = .ok (.ifCond .eq 15, 3) := by decide +kernel
theorem dd_X12_spelled_20 : decode Y_X12_spelled.2.1 20 = .ok (.lload 6, 2) := by decide +kernel
theorem dd_X12_spelled_22 : decode Y_X12_spelled.2.1 22 = .ok (.iconst 5, 1) := by decide +kernel
theorem dd_X12_spelled_23 : decode Y_X12_spelled.2.1 23 = .ok (.lshl, 1) := by decide +kernel
theorem dd_X12_spelled_24 : decode Y_X12_spelled.2.1 24 = .ok (.iload_n 2, 1) := by decide +kernel
theorem dd_X12_spelled_25 : decode Y_X12_spelled.2.1 25 = .ok (.bipush 96, 2) := by decide +kernel
theorem dd_X12_spelled_27 : decode Y_X12_spelled.2.1 27 = .ok (.isub, 1) := by decide +kernel
theorem dd_X12_spelled_28 : decode Y_X12_spelled.2.1 28 = .ok (.i2l, 1) := by decide +kernel
theorem dd_X12_spelled_29 : decode Y_X12_spelled.2.1 29 = .ok (.lor, 1) := by decide +kernel
theorem dd_X12_spelled_30 : decode Y_X12_spelled.2.1 30 = .ok (.lstore 6, 2) := by decide +kernel
theorem dd_X12_spelled_32 : decode Y_X12_spelled.2.1 32 = .ok (.iload_n 3, 1) := by decide +kernel
theorem dd_X12_spelled_33 : decode Y_X12_spelled.2.1 33 = .ok (.ifCond .eq 15, 3) := by decide +kernel
theorem dd_X12_spelled_36 : decode Y_X12_spelled.2.1 36 = .ok (.lload 6, 2) := by decide +kernel
theorem dd_X12_spelled_38 : decode Y_X12_spelled.2.1 38 = .ok (.iconst 5, 1) := by decide +kernel
theorem dd_X12_spelled_39 : decode Y_X12_spelled.2.1 39 = .ok (.lshl, 1) := by decide +kernel
theorem dd_X12_spelled_40 : decode Y_X12_spelled.2.1 40 = .ok (.iload_n 3, 1) := by decide +kernel
theorem dd_X12_spelled_41 : decode Y_X12_spelled.2.1 41 = .ok (.bipush 96, 2) := by decide +kernel
theorem dd_X12_spelled_43 : decode Y_X12_spelled.2.1 43 = .ok (.isub, 1) := by decide +kernel
theorem dd_X12_spelled_44 : decode Y_X12_spelled.2.1 44 = .ok (.i2l, 1) := by decide +kernel
theorem dd_X12_spelled_45 : decode Y_X12_spelled.2.1 45 = .ok (.lor, 1) := by decide +kernel
theorem dd_X12_spelled_46 : decode Y_X12_spelled.2.1 46 = .ok (.lstore 6, 2) := by decide +kernel
theorem dd_X12_spelled_48 : decode Y_X12_spelled.2.1 48 = .ok (.iload 4, 2) := by decide +kernel
theorem dd_X12_spelled_50 : decode Y_X12_spelled.2.1 50 = .ok (.ifCond .eq 16, 3) := by decide +kernel
theorem dd_X12_spelled_53 : decode Y_X12_spelled.2.1 53 = .ok (.lload 6, 2) := by decide +kernel
theorem dd_X12_spelled_55 : decode Y_X12_spelled.2.1 55 = .ok (.iconst 5, 1) := by decide +kernel
theorem dd_X12_spelled_56 : decode Y_X12_spelled.2.1 56 = .ok (.lshl, 1) := by decide +kernel
theorem dd_X12_spelled_57 : decode Y_X12_spelled.2.1 57 = .ok (.iload 4, 2) := by decide +kernel
theorem dd_X12_spelled_59 : decode Y_X12_spelled.2.1 59 = .ok (.bipush 96, 2) := by decide +kernel
theorem dd_X12_spelled_61 : decode Y_X12_spelled.2.1 61 = .ok (.isub, 1) := by decide +kernel
theorem dd_X12_spelled_62 : decode Y_X12_spelled.2.1 62 = .ok (.i2l, 1) := by decide +kernel
theorem dd_X12_spelled_63 : decode Y_X12_spelled.2.1 63 = .ok (.lor, 1) := by decide +kernel
theorem dd_X12_spelled_64 : decode Y_X12_spelled.2.1 64 = .ok (.lstore 6, 2) := by decide +kernel
theorem dd_X12_spelled_66 : decode Y_X12_spelled.2.1 66 = .ok (.iload 5, 2) := by decide +kernel
theorem dd_X12_spelled_68 : decode Y_X12_spelled.2.1 68 = .ok (.ifCond .eq 16, 3) := by decide +kernel
theorem dd_X12_spelled_71 : decode Y_X12_spelled.2.1 71 = .ok (.lload 6, 2) := by decide +kernel
theorem dd_X12_spelled_73 : decode Y_X12_spelled.2.1 73 = .ok (.iconst 5, 1) := by decide +kernel
theorem dd_X12_spelled_74 : decode Y_X12_spelled.2.1 74 = .ok (.lshl, 1) := by decide +kernel
theorem dd_X12_spelled_75 : decode Y_X12_spelled.2.1 75 = .ok (.iload 5, 2) := by decide +kernel
theorem dd_X12_spelled_77 : decode Y_X12_spelled.2.1 77 = .ok (.bipush 96, 2) := by decide +kernel
theorem dd_X12_spelled_79 : decode Y_X12_spelled.2.1 79 = .ok (.isub, 1) := by decide +kernel
theorem dd_X12_spelled_80 : decode Y_X12_spelled.2.1 80 = .ok (.i2l, 1) := by decide +kernel
theorem dd_X12_spelled_81 : decode Y_X12_spelled.2.1 81 = .ok (.lor, 1) := by decide +kernel
theorem dd_X12_spelled_82 : decode Y_X12_spelled.2.1 82 = .ok (.lstore 6, 2) := by decide +kernel
theorem dd_X12_spelled_84 : decode Y_X12_spelled.2.1 84 = .ok (.lload 6, 2) := by decide +kernel
theorem dd_X12_spelled_86 : decode Y_X12_spelled.2.1 86 = .ok (.lreturn, 1) := by decide +kernel
def F_X12_spelled (a0 : Int32) (a1 : Int32) (a2 : Int32) (a3 : Int32) (a4 : Int32) (a5 : Int32) (M : zM) : zO := zltL (((a0.toInt64 - 96) <<< ((5 : Int32).toInt64 &&& 63)) ||| ((a1 - 96).toInt64)) (fun v1 => zjo (fun (w1 : Int64) (M1 : zM) => zjo (fun (w2 : Int64) (M2 : zM) => zjo (fun (w3 : Int64) (M3 : zM) => zjo (fun (w4 : Int64) (M4 : zM) => zJ w4 M4) (fun (k4 : Int64 → zM → zO) => zit (a5 = 0) (k4 w3 M3) (zltL ((w3 <<< ((5 : Int32).toInt64 &&& 63)) ||| ((a5 - 96).toInt64)) (fun v5 => k4 v5 M3)))) (fun (k3 : Int64 → zM → zO) => zit (a4 = 0) (k3 w2 M2) (zltL ((w2 <<< ((5 : Int32).toInt64 &&& 63)) ||| ((a4 - 96).toInt64)) (fun v4 => k3 v4 M2)))) (fun (k2 : Int64 → zM → zO) => zit (a3 = 0) (k2 w1 M1) (zltL ((w1 <<< ((5 : Int32).toInt64 &&& 63)) ||| ((a3 - 96).toInt64)) (fun v3 => k2 v3 M1)))) (fun (k1 : Int64 → zM → zO) => zit (a2 = 0) (k1 v1 M) (zltL ((v1 <<< ((5 : Int32).toInt64 &&& 63)) ||| ((a2 - 96).toInt64)) (fun v2 => k1 v2 M))))
set_option maxHeartbeats 1000000 in
set_option maxRecDepth 20000 in
theorem ct_X12_spelled (l : Launch) (hl : l.stackTraces = false) (G : zG) (a0 : Int32) (a1 : Int32) (a2 : Int32) (a3 : Int32) (a4 : Int32) (a5 : Int32) (M : zM) : zMt l G Y_X12_spelled 1 [.int a0, .int a1, .int a2, .int a3, .int a4, .int a5] M (F_X12_spelled a0 a1 a2 a3 a4 a5 M) := by
  refine zMt_of (by decide +kernel) (Nat.le_of_ble_eq_true rfl) ?_
  show zEv l G Y_X12_spelled 1 0 0 [(0, .int a0), (1, .int a1), (2, .int a2), (3, .int a3), (4, .int a4), (5, .int a5)] [] M (zltL (((a0.toInt64 - 96) <<< ((5 : Int32).toInt64 &&& 63)) ||| ((a1 - 96).toInt64)) (fun v1 => zjo (fun (w1 : Int64) (M1 : zM) => zjo (fun (w2 : Int64) (M2 : zM) => zjo (fun (w3 : Int64) (M3 : zM) => zjo (fun (w4 : Int64) (M4 : zM) => zJ w4 M4) (fun (k4 : Int64 → zM → zO) => zit (a5 = 0) (k4 w3 M3) (zltL ((w3 <<< ((5 : Int32).toInt64 &&& 63)) ||| ((a5 - 96).toInt64)) (fun v5 => k4 v5 M3)))) (fun (k3 : Int64 → zM → zO) => zit (a4 = 0) (k3 w2 M2) (zltL ((w2 <<< ((5 : Int32).toInt64 &&& 63)) ||| ((a4 - 96).toInt64)) (fun v4 => k3 v4 M2)))) (fun (k2 : Int64 → zM → zO) => zit (a3 = 0) (k2 w1 M1) (zltL ((w1 <<< ((5 : Int32).toInt64 &&& 63)) ||| ((a3 - 96).toInt64)) (fun v3 => k2 v3 M1)))) (fun (k1 : Int64 → zM → zO) => zit (a2 = 0) (k1 v1 M) (zltL ((v1 <<< ((5 : Int32).toInt64 &&& 63)) ||| ((a2 - 96).toInt64)) (fun v2 => k1 v2 M)))))
  refine ev_iload_n dd_X12_spelled_0 0 rfl ?_
  refine ev_lv (lv' := [(1, .int a1), (2, .int a2), (3, .int a3), (4, .int a4), (5, .int a5)]) [1, 2, 3, 4, 5] rfl ?_
  refine ev_i2l dd_X12_spelled_1 ?_
  refine ev_ldc2 (v := 96) dd_X12_spelled_2 wk_RX12_199 ?_
  refine ev_lsub dd_X12_spelled_5 ?_
  refine ev_iconst (v := 5) dd_X12_spelled_6 (by decide) ?_
  refine ev_lshl dd_X12_spelled_7 ?_
  refine ev_iload_n dd_X12_spelled_8 0 rfl ?_
  refine ev_lv (lv' := [(2, .int a2), (3, .int a3), (4, .int a4), (5, .int a5)]) [1, 2, 3, 4] rfl ?_
  refine ev_bipush (v := 96) dd_X12_spelled_9 (by decide) ?_
  refine ev_isub dd_X12_spelled_11 ?_
  refine ev_i2l dd_X12_spelled_12 ?_
  refine ev_lor dd_X12_spelled_13 ?_
  refine ev_topl (fun v1 => ?_)
  refine ev_lstore (i := 6) (lv' := [(2, .int a2), (3, .int a3), (4, .int a4), (5, .int a5), (6, .long v1)]) [1, 2, 3, 4, 0] dd_X12_spelled_14 (by decide) rfl ?_
  refine ev_iload_n dd_X12_spelled_16 0 rfl ?_
  refine ev_jo (fun (k1 : Int64 → zM → zO) => ∀ (w1 : Int64) (M1 : zM), zEv l G Y_X12_spelled 1 0 32 [(3, .int a3), (4, .int a4), (5, .int a5), (6, .long w1)] [] M1 (k1 w1 M1)) ?_ (fun k1 hk1 => ?_)
  · intro w1 M1
    refine ev_iload_n dd_X12_spelled_32 0 rfl ?_
    refine ev_jo (fun (k2 : Int64 → zM → zO) => ∀ (w2 : Int64) (M2 : zM), zEv l G Y_X12_spelled 1 0 48 [(4, .int a4), (5, .int a5), (6, .long w2)] [] M2 (k2 w2 M2)) ?_ (fun k2 hk2 => ?_)
    · intro w2 M2
      refine ev_iload dd_X12_spelled_48 0 rfl ?_
      refine ev_jo (fun (k3 : Int64 → zM → zO) => ∀ (w3 : Int64) (M3 : zM), zEv l G Y_X12_spelled 1 0 66 [(5, .int a5), (6, .long w3)] [] M3 (k3 w3 M3)) ?_ (fun k3 hk3 => ?_)
      · intro w3 M3
        refine ev_iload dd_X12_spelled_66 0 rfl ?_
        refine ev_jo (fun (k4 : Int64 → zM → zO) => ∀ (w4 : Int64) (M4 : zM), zEv l G Y_X12_spelled 1 0 84 [(6, .long w4)] [] M4 (k4 w4 M4)) ?_ (fun k4 hk4 => ?_)
        · intro w4 M4
          refine ev_lload dd_X12_spelled_84 0 rfl ?_
          refine ev_lv (lv' := []) [] rfl ?_
          exact ev_lret dd_X12_spelled_86 rfl (Nat.le_of_ble_eq_true rfl) rfl
        · refine ev_if_eq 84 dd_X12_spelled_68 (by decide) ?_ ?_
          · refine ev_lv (lv' := [(6, .long w3)]) [1] rfl ?_
            exact hk4 _ _
          · refine ev_lload dd_X12_spelled_71 1 rfl ?_
            refine ev_lv (lv' := [(5, .int a5)]) [0] rfl ?_
            refine ev_iconst (v := 5) dd_X12_spelled_73 (by decide) ?_
            refine ev_lshl dd_X12_spelled_74 ?_
            refine ev_iload dd_X12_spelled_75 0 rfl ?_
            refine ev_lv (lv' := []) [] rfl ?_
            refine ev_bipush (v := 96) dd_X12_spelled_77 (by decide) ?_
            refine ev_isub dd_X12_spelled_79 ?_
            refine ev_i2l dd_X12_spelled_80 ?_
            refine ev_lor dd_X12_spelled_81 ?_
            refine ev_topl (fun v5 => ?_)
            refine ev_lstore (i := 6) (lv' := [(6, .long v5)]) [0] dd_X12_spelled_82 (by decide) rfl ?_
            exact hk4 _ _
      · refine ev_if_eq 66 dd_X12_spelled_50 (by decide) ?_ ?_
        · refine ev_lv (lv' := [(5, .int a5), (6, .long w2)]) [1, 2] rfl ?_
          exact hk3 _ _
        · refine ev_lload dd_X12_spelled_53 2 rfl ?_
          refine ev_lv (lv' := [(4, .int a4), (5, .int a5)]) [0, 1] rfl ?_
          refine ev_iconst (v := 5) dd_X12_spelled_55 (by decide) ?_
          refine ev_lshl dd_X12_spelled_56 ?_
          refine ev_iload dd_X12_spelled_57 0 rfl ?_
          refine ev_lv (lv' := [(5, .int a5)]) [1] rfl ?_
          refine ev_bipush (v := 96) dd_X12_spelled_59 (by decide) ?_
          refine ev_isub dd_X12_spelled_61 ?_
          refine ev_i2l dd_X12_spelled_62 ?_
          refine ev_lor dd_X12_spelled_63 ?_
          refine ev_topl (fun v4 => ?_)
          refine ev_lstore (i := 6) (lv' := [(5, .int a5), (6, .long v4)]) [1, 0] dd_X12_spelled_64 (by decide) rfl ?_
          exact hk3 _ _
    · refine ev_if_eq 48 dd_X12_spelled_33 (by decide) ?_ ?_
      · refine ev_lv (lv' := [(4, .int a4), (5, .int a5), (6, .long w1)]) [1, 2, 3] rfl ?_
        exact hk2 _ _
      · refine ev_lload dd_X12_spelled_36 3 rfl ?_
        refine ev_lv (lv' := [(3, .int a3), (4, .int a4), (5, .int a5)]) [0, 1, 2] rfl ?_
        refine ev_iconst (v := 5) dd_X12_spelled_38 (by decide) ?_
        refine ev_lshl dd_X12_spelled_39 ?_
        refine ev_iload_n dd_X12_spelled_40 0 rfl ?_
        refine ev_lv (lv' := [(4, .int a4), (5, .int a5)]) [1, 2] rfl ?_
        refine ev_bipush (v := 96) dd_X12_spelled_41 (by decide) ?_
        refine ev_isub dd_X12_spelled_43 ?_
        refine ev_i2l dd_X12_spelled_44 ?_
        refine ev_lor dd_X12_spelled_45 ?_
        refine ev_topl (fun v3 => ?_)
        refine ev_lstore (i := 6) (lv' := [(4, .int a4), (5, .int a5), (6, .long v3)]) [1, 2, 0] dd_X12_spelled_46 (by decide) rfl ?_
        exact hk2 _ _
  · refine ev_if_eq 32 dd_X12_spelled_17 (by decide) ?_ ?_
    · refine ev_lv (lv' := [(3, .int a3), (4, .int a4), (5, .int a5), (6, .long v1)]) [1, 2, 3, 4] rfl ?_
      exact hk1 _ _
    · refine ev_lload dd_X12_spelled_20 4 rfl ?_
      refine ev_lv (lv' := [(2, .int a2), (3, .int a3), (4, .int a4), (5, .int a5)]) [0, 1, 2, 3] rfl ?_
      refine ev_iconst (v := 5) dd_X12_spelled_22 (by decide) ?_
      refine ev_lshl dd_X12_spelled_23 ?_
      refine ev_iload_n dd_X12_spelled_24 0 rfl ?_
      refine ev_lv (lv' := [(3, .int a3), (4, .int a4), (5, .int a5)]) [1, 2, 3] rfl ?_
      refine ev_bipush (v := 96) dd_X12_spelled_25 (by decide) ?_
      refine ev_isub dd_X12_spelled_27 ?_
      refine ev_i2l dd_X12_spelled_28 ?_
      refine ev_lor dd_X12_spelled_29 ?_
      refine ev_topl (fun v2 => ?_)
      refine ev_lstore (i := 6) (lv' := [(3, .int a3), (4, .int a4), (5, .int a5), (6, .long v2)]) [1, 2, 3, 0] dd_X12_spelled_30 (by decide) rfl ?_
      exact hk1 _ _
/-! X12_letters -/
theorem dd_X12_letters_0 : decode Y_X12_letters.2.1 0 = .ok (.iload_n 0, 1) := by decide +kernel
theorem dd_X12_letters_1 : decode Y_X12_letters.2.1 1 = .ok (.tableswitch 304 0 15 #[79, 93, 108, 121, 135, 150, 164, 178, 192, 208, 223, 237, 251, 266, 279, 292], 79) := by decide +kernel
theorem dd_X12_letters_80 : decode Y_X12_letters.2.1 80 = .ok (.bipush 109, 2) := by decide +kernel
theorem dd_X12_letters_82 : decode Y_X12_letters.2.1 82 = .ok (.bipush 105, 2) := by decide +kernel
theorem dd_X12_letters_84 : decode Y_X12_letters.2.1 84 = .ok (.bipush 110, 2) := by decide +kernel
theorem dd_X12_letters_86 : decode Y_X12_letters.2.1 86 = .ok (.bipush 101, 2) := by decide +kernel
theorem dd_X12_letters_88 : decode Y_X12_letters.2.1 88 = .ok (.iconst 0, 1) := by decide +kernel
theorem dd_X12_letters_89 : decode Y_X12_letters.2.1 89 = .ok (.iconst 0, 1) := by decide +kernel
theorem dd_X12_letters_90 : decode Y_X12_letters.2.1 90 = .ok (.invokestatic 201, 3) := by decide +kernel
theorem dd_X12_letters_93 : decode Y_X12_letters.2.1 93 = .ok (.lreturn, 1) := by decide +kernel
theorem dd_X12_letters_94 : decode Y_X12_letters.2.1 94 = .ok (.bipush 121, 2) := by decide +kernel
theorem dd_X12_letters_96 : decode Y_X12_letters.2.1 96 = .ok (.bipush 111, 2) := by decide +kernel
theorem dd_X12_letters_98 : decode Y_X12_letters.2.1 98 = .ok (.bipush 117, 2) := by decide +kernel
theorem dd_X12_letters_100 : decode Y_X12_letters.2.1 100 = .ok (.bipush 114, 2) := by decide +kernel
theorem dd_X12_letters_102 : decode Y_X12_letters.2.1 102 = .ok (.bipush 115, 2) := by decide +kernel
theorem dd_X12_letters_104 : decode Y_X12_letters.2.1 104 = .ok (.iconst 0, 1) := by decide +kernel
theorem dd_X12_letters_105 : decode Y_X12_letters.2.1 105 = .ok (.invokestatic 201, 3) := by decide +kernel
theorem dd_X12_letters_108 : decode Y_X12_letters.2.1 108 = .ok (.lreturn, 1) := by decide +kernel
theorem dd_X12_letters_109 : decode Y_X12_letters.2.1 109 = .ok (.bipush 102, 2) := by decide +kernel
theorem dd_X12_letters_111 : decode Y_X12_letters.2.1 111 = .ok (.bipush 97, 2) := by decide +kernel
theorem dd_X12_letters_113 : decode Y_X12_letters.2.1 113 = .ok (.bipush 114, 2) := by decide +kernel
theorem dd_X12_letters_115 : decode Y_X12_letters.2.1 115 = .ok (.iconst 0, 1) := by decide +kernel
theorem dd_X12_letters_116 : decode Y_X12_letters.2.1 116 = .ok (.iconst 0, 1) := by decide +kernel
theorem dd_X12_letters_117 : decode Y_X12_letters.2.1 117 = .ok (.iconst 0, 1) := by decide +kernel
theorem dd_X12_letters_118 : decode Y_X12_letters.2.1 118 = .ok (.invokestatic 201, 3) := by decide +kernel
theorem dd_X12_letters_121 : decode Y_X12_letters.2.1 121 = .ok (.lreturn, 1) := by decide +kernel
theorem dd_X12_letters_122 : decode Y_X12_letters.2.1 122 = .ok (.bipush 115, 2) := by decide +kernel
theorem dd_X12_letters_124 : decode Y_X12_letters.2.1 124 = .ok (.bipush 111, 2) := by decide +kernel
theorem dd_X12_letters_126 : decode Y_X12_letters.2.1 126 = .ok (.bipush 114, 2) := by decide +kernel
theorem dd_X12_letters_128 : decode Y_X12_letters.2.1 128 = .ok (.bipush 116, 2) := by decide +kernel
theorem dd_X12_letters_130 : decode Y_X12_letters.2.1 130 = .ok (.iconst 0, 1) := by decide +kernel
theorem dd_X12_letters_131 : decode Y_X12_letters.2.1 131 = .ok (.iconst 0, 1) := by decide +kernel
theorem dd_X12_letters_132 : decode Y_X12_letters.2.1 132 = .ok (.invokestatic 201, 3) := by decide +kernel
theorem dd_X12_letters_135 : decode Y_X12_letters.2.1 135 = .ok (.lreturn, 1) := by decide +kernel
theorem dd_X12_letters_136 : decode Y_X12_letters.2.1 136 = .ok (.bipush 111, 2) := by decide +kernel
theorem dd_X12_letters_138 : decode Y_X12_letters.2.1 138 = .ok (.bipush 116, 2) := by decide +kernel
theorem dd_X12_letters_140 : decode Y_X12_letters.2.1 140 = .ok (.bipush 104, 2) := by decide +kernel
theorem dd_X12_letters_142 : decode Y_X12_letters.2.1 142 = .ok (.bipush 101, 2) := by decide +kernel
theorem dd_X12_letters_144 : decode Y_X12_letters.2.1 144 = .ok (.bipush 114, 2) := by decide +kernel
theorem dd_X12_letters_146 : decode Y_X12_letters.2.1 146 = .ok (.iconst 0, 1) := by decide +kernel
theorem dd_X12_letters_147 : decode Y_X12_letters.2.1 147 = .ok (.invokestatic 201, 3) := by decide +kernel
theorem dd_X12_letters_150 : decode Y_X12_letters.2.1 150 = .ok (.lreturn, 1) := by decide +kernel
theorem dd_X12_letters_151 : decode Y_X12_letters.2.1 151 = .ok (.bipush 100, 2) := by decide +kernel
theorem dd_X12_letters_153 : decode Y_X12_letters.2.1 153 = .ok (.bipush 101, 2) := by decide +kernel
theorem dd_X12_letters_155 : decode Y_X12_letters.2.1 155 = .ok (.bipush 98, 2) := by decide +kernel
theorem dd_X12_letters_157 : decode Y_X12_letters.2.1 157 = .ok (.bipush 116, 2) := by decide +kernel
theorem dd_X12_letters_159 : decode Y_X12_letters.2.1 159 = .ok (.iconst 0, 1) := by decide +kernel
theorem dd_X12_letters_160 : decode Y_X12_letters.2.1 160 = .ok (.iconst 0, 1) := by decide +kernel
theorem dd_X12_letters_161 : decode Y_X12_letters.2.1 161 = .ok (.invokestatic 201, 3) := by decide +kernel
theorem dd_X12_letters_164 : decode Y_X12_letters.2.1 164 = .ok (.lreturn, 1) := by decide +kernel
theorem dd_X12_letters_165 : decode Y_X12_letters.2.1 165 = .ok (.bipush 121, 2) := by decide +kernel
theorem dd_X12_letters_167 : decode Y_X12_letters.2.1 167 = .ok (.bipush 101, 2) := by decide +kernel
theorem dd_X12_letters_169 : decode Y_X12_letters.2.1 169 = .ok (.bipush 97, 2) := by decide +kernel
theorem dd_X12_letters_171 : decode Y_X12_letters.2.1 171 = .ok (.bipush 114, 2) := by decide +kernel
theorem dd_X12_letters_173 : decode Y_X12_letters.2.1 173 = .ok (.iconst 0, 1) := by decide +kernel
theorem dd_X12_letters_174 : decode Y_X12_letters.2.1 174 = .ok (.iconst 0, 1) := by decide +kernel
theorem dd_X12_letters_175 : decode Y_X12_letters.2.1 175 = .ok (.invokestatic 201, 3) := by decide +kernel
theorem dd_X12_letters_178 : decode Y_X12_letters.2.1 178 = .ok (.lreturn, 1) := by decide +kernel
theorem dd_X12_letters_179 : decode Y_X12_letters.2.1 179 = .ok (.bipush 110, 2) := by decide +kernel
theorem dd_X12_letters_181 : decode Y_X12_letters.2.1 181 = .ok (.bipush 97, 2) := by decide +kernel
theorem dd_X12_letters_183 : decode Y_X12_letters.2.1 183 = .ok (.bipush 109, 2) := by decide +kernel
theorem dd_X12_letters_185 : decode Y_X12_letters.2.1 185 = .ok (.bipush 101, 2) := by decide +kernel
theorem dd_X12_letters_187 : decode Y_X12_letters.2.1 187 = .ok (.iconst 0, 1) := by decide +kernel
theorem dd_X12_letters_188 : decode Y_X12_letters.2.1 188 = .ok (.iconst 0, 1) := by decide +kernel
theorem dd_X12_letters_189 : decode Y_X12_letters.2.1 189 = .ok (.invokestatic 201, 3) := by decide +kernel
theorem dd_X12_letters_192 : decode Y_X12_letters.2.1 192 = .ok (.lreturn, 1) := by decide +kernel
theorem dd_X12_letters_193 : decode Y_X12_letters.2.1 193 = .ok (.bipush 99, 2) := by decide +kernel
theorem dd_X12_letters_195 : decode Y_X12_letters.2.1 195 = .ok (.bipush 111, 2) := by decide +kernel
theorem dd_X12_letters_197 : decode Y_X12_letters.2.1 197 = .ok (.bipush 108, 2) := by decide +kernel
theorem dd_X12_letters_199 : decode Y_X12_letters.2.1 199 = .ok (.bipush 111, 2) := by decide +kernel
theorem dd_X12_letters_201 : decode Y_X12_letters.2.1 201 = .ok (.bipush 110, 2) := by decide +kernel
theorem dd_X12_letters_203 : decode Y_X12_letters.2.1 203 = .ok (.bipush 121, 2) := by decide +kernel
theorem dd_X12_letters_205 : decode Y_X12_letters.2.1 205 = .ok (.invokestatic 201, 3) := by decide +kernel
theorem dd_X12_letters_208 : decode Y_X12_letters.2.1 208 = .ok (.lreturn, 1) := by decide +kernel
theorem dd_X12_letters_209 : decode Y_X12_letters.2.1 209 = .ok (.bipush 110, 2) := by decide +kernel
theorem dd_X12_letters_211 : decode Y_X12_letters.2.1 211 = .ok (.bipush 111, 2) := by decide +kernel
theorem dd_X12_letters_213 : decode Y_X12_letters.2.1 213 = .ok (.bipush 114, 2) := by decide +kernel
theorem dd_X12_letters_215 : decode Y_X12_letters.2.1 215 = .ok (.bipush 116, 2) := by decide +kernel
theorem dd_X12_letters_217 : decode Y_X12_letters.2.1 217 = .ok (.bipush 104, 2) := by decide +kernel
theorem dd_X12_letters_219 : decode Y_X12_letters.2.1 219 = .ok (.iconst 0, 1) := by decide +kernel
theorem dd_X12_letters_220 : decode Y_X12_letters.2.1 220 = .ok (.invokestatic 201, 3) := by decide +kernel
theorem dd_X12_letters_223 : decode Y_X12_letters.2.1 223 = .ok (.lreturn, 1) := by decide +kernel
theorem dd_X12_letters_224 : decode Y_X12_letters.2.1 224 = .ok (.bipush 119, 2) := by decide +kernel
theorem dd_X12_letters_226 : decode Y_X12_letters.2.1 226 = .ok (.bipush 105, 2) := by decide +kernel
theorem dd_X12_letters_228 : decode Y_X12_letters.2.1 228 = .ok (.bipush 115, 2) := by decide +kernel
theorem dd_X12_letters_230 : decode Y_X12_letters.2.1 230 = .ok (.bipush 104, 2) := by decide +kernel
theorem dd_X12_letters_232 : decode Y_X12_letters.2.1 232 = .ok (.iconst 0, 1) := by decide +kernel
theorem dd_X12_letters_233 : decode Y_X12_letters.2.1 233 = .ok (.iconst 0, 1) := by decide +kernel
theorem dd_X12_letters_234 : decode Y_X12_letters.2.1 234 = .ok (.invokestatic 201, 3) := by decide +kernel
theorem dd_X12_letters_237 : decode Y_X12_letters.2.1 237 = .ok (.lreturn, 1) := by decide +kernel
theorem dd_X12_letters_238 : decode Y_X12_letters.2.1 238 = .ok (.bipush 102, 2) := by decide +kernel
theorem dd_X12_letters_240 : decode Y_X12_letters.2.1 240 = .ok (.bipush 97, 2) := by decide +kernel
theorem dd_X12_letters_242 : decode Y_X12_letters.2.1 242 = .ok (.bipush 105, 2) := by decide +kernel
theorem dd_X12_letters_244 : decode Y_X12_letters.2.1 244 = .ok (.bipush 114, 2) := by decide +kernel
theorem dd_X12_letters_246 : decode Y_X12_letters.2.1 246 = .ok (.iconst 0, 1) := by decide +kernel
theorem dd_X12_letters_247 : decode Y_X12_letters.2.1 247 = .ok (.iconst 0, 1) := by decide +kernel
theorem dd_X12_letters_248 : decode Y_X12_letters.2.1 248 = .ok (.invokestatic 201, 3) := by decide +kernel
theorem dd_X12_letters_251 : decode Y_X12_letters.2.1 251 = .ok (.lreturn, 1) := by decide +kernel
theorem dd_X12_letters_252 : decode Y_X12_letters.2.1 252 = .ok (.bipush 115, 2) := by decide +kernel
theorem dd_X12_letters_254 : decode Y_X12_letters.2.1 254 = .ok (.bipush 112, 2) := by decide +kernel
theorem dd_X12_letters_256 : decode Y_X12_letters.2.1 256 = .ok (.bipush 101, 2) := by decide +kernel
theorem dd_X12_letters_258 : decode Y_X12_letters.2.1 258 = .ok (.bipush 101, 2) := by decide +kernel
theorem dd_X12_letters_260 : decode Y_X12_letters.2.1 260 = .ok (.bipush 100, 2) := by decide +kernel
theorem dd_X12_letters_262 : decode Y_X12_letters.2.1 262 = .ok (.iconst 0, 1) := by decide +kernel
theorem dd_X12_letters_263 : decode Y_X12_letters.2.1 263 = .ok (.invokestatic 201, 3) := by decide +kernel
theorem dd_X12_letters_266 : decode Y_X12_letters.2.1 266 = .ok (.lreturn, 1) := by decide +kernel
theorem dd_X12_letters_267 : decode Y_X12_letters.2.1 267 = .ok (.bipush 108, 2) := by decide +kernel
theorem dd_X12_letters_269 : decode Y_X12_letters.2.1 269 = .ok (.bipush 97, 2) := by decide +kernel
theorem dd_X12_letters_271 : decode Y_X12_letters.2.1 271 = .ok (.bipush 119, 2) := by decide +kernel
theorem dd_X12_letters_273 : decode Y_X12_letters.2.1 273 = .ok (.iconst 0, 1) := by decide +kernel
theorem dd_X12_letters_274 : decode Y_X12_letters.2.1 274 = .ok (.iconst 0, 1) := by decide +kernel
theorem dd_X12_letters_275 : decode Y_X12_letters.2.1 275 = .ok (.iconst 0, 1) := by decide +kernel
theorem dd_X12_letters_276 : decode Y_X12_letters.2.1 276 = .ok (.invokestatic 201, 3) := by decide +kernel
theorem dd_X12_letters_279 : decode Y_X12_letters.2.1 279 = .ok (.lreturn, 1) := by decide +kernel
theorem dd_X12_letters_280 : decode Y_X12_letters.2.1 280 = .ok (.bipush 97, 2) := by decide +kernel
theorem dd_X12_letters_282 : decode Y_X12_letters.2.1 282 = .ok (.bipush 110, 2) := by decide +kernel
theorem dd_X12_letters_284 : decode Y_X12_letters.2.1 284 = .ok (.bipush 100, 2) := by decide +kernel
theorem dd_X12_letters_286 : decode Y_X12_letters.2.1 286 = .ok (.iconst 0, 1) := by decide +kernel
theorem dd_X12_letters_287 : decode Y_X12_letters.2.1 287 = .ok (.iconst 0, 1) := by decide +kernel
theorem dd_X12_letters_288 : decode Y_X12_letters.2.1 288 = .ok (.iconst 0, 1) := by decide +kernel
theorem dd_X12_letters_289 : decode Y_X12_letters.2.1 289 = .ok (.invokestatic 201, 3) := by decide +kernel
theorem dd_X12_letters_292 : decode Y_X12_letters.2.1 292 = .ok (.lreturn, 1) := by decide +kernel
theorem dd_X12_letters_293 : decode Y_X12_letters.2.1 293 = .ok (.bipush 111, 2) := by decide +kernel
theorem dd_X12_letters_295 : decode Y_X12_letters.2.1 295 = .ok (.bipush 114, 2) := by decide +kernel
theorem dd_X12_letters_297 : decode Y_X12_letters.2.1 297 = .ok (.iconst 0, 1) := by decide +kernel
theorem dd_X12_letters_298 : decode Y_X12_letters.2.1 298 = .ok (.iconst 0, 1) := by decide +kernel
theorem dd_X12_letters_299 : decode Y_X12_letters.2.1 299 = .ok (.iconst 0, 1) := by decide +kernel
theorem dd_X12_letters_300 : decode Y_X12_letters.2.1 300 = .ok (.iconst 0, 1) := by decide +kernel
theorem dd_X12_letters_301 : decode Y_X12_letters.2.1 301 = .ok (.invokestatic 201, 3) := by decide +kernel
theorem dd_X12_letters_304 : decode Y_X12_letters.2.1 304 = .ok (.lreturn, 1) := by decide +kernel
theorem dd_X12_letters_305 : decode Y_X12_letters.2.1 305 = .ok (.bipush 110, 2) := by decide +kernel
theorem dd_X12_letters_307 : decode Y_X12_letters.2.1 307 = .ok (.bipush 111, 2) := by decide +kernel
theorem dd_X12_letters_309 : decode Y_X12_letters.2.1 309 = .ok (.bipush 116, 2) := by decide +kernel
theorem dd_X12_letters_311 : decode Y_X12_letters.2.1 311 = .ok (.iconst 0, 1) := by decide +kernel
theorem dd_X12_letters_312 : decode Y_X12_letters.2.1 312 = .ok (.iconst 0, 1) := by decide +kernel
theorem dd_X12_letters_313 : decode Y_X12_letters.2.1 313 = .ok (.iconst 0, 1) := by decide +kernel
theorem dd_X12_letters_314 : decode Y_X12_letters.2.1 314 = .ok (.invokestatic 201, 3) := by decide +kernel
theorem dd_X12_letters_317 : decode Y_X12_letters.2.1 317 = .ok (.lreturn, 1) := by decide +kernel
def F_X12_letters (a0 : Int32) (M : zM) : zO := zit (a0 = 0) (zbJ (F_X12_spelled 109 105 110 101 0 0 M) (fun r1 M1 => zJ r1 M1)) (zit (a0 = 1) (zbJ (F_X12_spelled 121 111 117 114 115 0 M) (fun r2 M2 => zJ r2 M2)) (zit (a0 = 2) (zbJ (F_X12_spelled 102 97 114 0 0 0 M) (fun r3 M3 => zJ r3 M3)) (zit (a0 = 3) (zbJ (F_X12_spelled 115 111 114 116 0 0 M) (fun r4 M4 => zJ r4 M4)) (zit (a0 = 4) (zbJ (F_X12_spelled 111 116 104 101 114 0 M) (fun r5 M5 => zJ r5 M5)) (zit (a0 = 5) (zbJ (F_X12_spelled 100 101 98 116 0 0 M) (fun r6 M6 => zJ r6 M6)) (zit (a0 = 6) (zbJ (F_X12_spelled 121 101 97 114 0 0 M) (fun r7 M7 => zJ r7 M7)) (zit (a0 = 7) (zbJ (F_X12_spelled 110 97 109 101 0 0 M) (fun r8 M8 => zJ r8 M8)) (zit (a0 = 8) (zbJ (F_X12_spelled 99 111 108 111 110 121 M) (fun r9 M9 => zJ r9 M9)) (zit (a0 = 9) (zbJ (F_X12_spelled 110 111 114 116 104 0 M) (fun r10 M10 => zJ r10 M10)) (zit (a0 = 10) (zbJ (F_X12_spelled 119 105 115 104 0 0 M) (fun r11 M11 => zJ r11 M11)) (zit (a0 = 11) (zbJ (F_X12_spelled 102 97 105 114 0 0 M) (fun r12 M12 => zJ r12 M12)) (zit (a0 = 12) (zbJ (F_X12_spelled 115 112 101 101 100 0 M) (fun r13 M13 => zJ r13 M13)) (zit (a0 = 13) (zbJ (F_X12_spelled 108 97 119 0 0 0 M) (fun r14 M14 => zJ r14 M14)) (zit (a0 = 14) (zbJ (F_X12_spelled 97 110 100 0 0 0 M) (fun r15 M15 => zJ r15 M15)) (zit (a0 = 15) (zbJ (F_X12_spelled 111 114 0 0 0 0 M) (fun r16 M16 => zJ r16 M16)) (zbJ (F_X12_spelled 110 111 116 0 0 0 M) (fun r17 M17 => zJ r17 M17)))))))))))))))))
set_option maxHeartbeats 1000000 in
set_option maxRecDepth 20000 in
theorem ct_X12_letters (l : Launch) (hl : l.stackTraces = false) (G : zG) (a0 : Int32) (M : zM) : zMt l G Y_X12_letters 2 [.int a0] M (F_X12_letters a0 M) := by
  refine zMt_of (by decide +kernel) (Nat.le_of_ble_eq_true rfl) ?_
  show zEv l G Y_X12_letters 2 0 0 [(0, .int a0)] [] M (zit (a0 = 0) (zbJ (F_X12_spelled 109 105 110 101 0 0 M) (fun r1 M1 => zJ r1 M1)) (zit (a0 = 1) (zbJ (F_X12_spelled 121 111 117 114 115 0 M) (fun r2 M2 => zJ r2 M2)) (zit (a0 = 2) (zbJ (F_X12_spelled 102 97 114 0 0 0 M) (fun r3 M3 => zJ r3 M3)) (zit (a0 = 3) (zbJ (F_X12_spelled 115 111 114 116 0 0 M) (fun r4 M4 => zJ r4 M4)) (zit (a0 = 4) (zbJ (F_X12_spelled 111 116 104 101 114 0 M) (fun r5 M5 => zJ r5 M5)) (zit (a0 = 5) (zbJ (F_X12_spelled 100 101 98 116 0 0 M) (fun r6 M6 => zJ r6 M6)) (zit (a0 = 6) (zbJ (F_X12_spelled 121 101 97 114 0 0 M) (fun r7 M7 => zJ r7 M7)) (zit (a0 = 7) (zbJ (F_X12_spelled 110 97 109 101 0 0 M) (fun r8 M8 => zJ r8 M8)) (zit (a0 = 8) (zbJ (F_X12_spelled 99 111 108 111 110 121 M) (fun r9 M9 => zJ r9 M9)) (zit (a0 = 9) (zbJ (F_X12_spelled 110 111 114 116 104 0 M) (fun r10 M10 => zJ r10 M10)) (zit (a0 = 10) (zbJ (F_X12_spelled 119 105 115 104 0 0 M) (fun r11 M11 => zJ r11 M11)) (zit (a0 = 11) (zbJ (F_X12_spelled 102 97 105 114 0 0 M) (fun r12 M12 => zJ r12 M12)) (zit (a0 = 12) (zbJ (F_X12_spelled 115 112 101 101 100 0 M) (fun r13 M13 => zJ r13 M13)) (zit (a0 = 13) (zbJ (F_X12_spelled 108 97 119 0 0 0 M) (fun r14 M14 => zJ r14 M14)) (zit (a0 = 14) (zbJ (F_X12_spelled 97 110 100 0 0 0 M) (fun r15 M15 => zJ r15 M15)) (zit (a0 = 15) (zbJ (F_X12_spelled 111 114 0 0 0 0 M) (fun r16 M16 => zJ r16 M16)) (zbJ (F_X12_spelled 110 111 116 0 0 0 M) (fun r17 M17 => zJ r17 M17))))))))))))))))))
  refine ev_iload_n dd_X12_letters_0 0 rfl ?_
  refine ev_lv (lv' := []) [] rfl ?_
  refine ev_it (fun hs1 => ?_) (fun hs1 => ?_)
  · refine ev_tabIn (off := 79) (tgt := 80) dd_X12_letters_1 0 hs1 (by decide +kernel) ?_
    refine ev_bipush (v := 109) dd_X12_letters_80 (by decide) ?_
    refine ev_bipush (v := 105) dd_X12_letters_82 (by decide) ?_
    refine ev_bipush (v := 110) dd_X12_letters_84 (by decide) ?_
    refine ev_bipush (v := 101) dd_X12_letters_86 (by decide) ?_
    refine ev_iconst (v := 0) dd_X12_letters_88 (by decide) ?_
    refine ev_iconst (v := 0) dd_X12_letters_89 (by decide) ?_
    refine ev_callSJ (As := [.int 109, .int 105, .int 110, .int 101, .int 0, .int 0]) cl_RX12_201 (ct_X12_spelled l hl G 109 105 110 101 0 0 M) dd_X12_letters_90 (by decide) (Nat.le_of_ble_eq_true rfl) (Nat.le_of_ble_eq_true rfl) rfl rfl (fun r1 M1 => ?_)
    exact ev_lret dd_X12_letters_93 rfl (Nat.le_of_ble_eq_true rfl) rfl
  refine ev_it (fun hs2 => ?_) (fun hs2 => ?_)
  · refine ev_tabIn (off := 93) (tgt := 94) dd_X12_letters_1 1 hs2 (by decide +kernel) ?_
    refine ev_bipush (v := 121) dd_X12_letters_94 (by decide) ?_
    refine ev_bipush (v := 111) dd_X12_letters_96 (by decide) ?_
    refine ev_bipush (v := 117) dd_X12_letters_98 (by decide) ?_
    refine ev_bipush (v := 114) dd_X12_letters_100 (by decide) ?_
    refine ev_bipush (v := 115) dd_X12_letters_102 (by decide) ?_
    refine ev_iconst (v := 0) dd_X12_letters_104 (by decide) ?_
    refine ev_callSJ (As := [.int 121, .int 111, .int 117, .int 114, .int 115, .int 0]) cl_RX12_201 (ct_X12_spelled l hl G 121 111 117 114 115 0 M) dd_X12_letters_105 (by decide) (Nat.le_of_ble_eq_true rfl) (Nat.le_of_ble_eq_true rfl) rfl rfl (fun r2 M2 => ?_)
    exact ev_lret dd_X12_letters_108 rfl (Nat.le_of_ble_eq_true rfl) rfl
  refine ev_it (fun hs3 => ?_) (fun hs3 => ?_)
  · refine ev_tabIn (off := 108) (tgt := 109) dd_X12_letters_1 2 hs3 (by decide +kernel) ?_
    refine ev_bipush (v := 102) dd_X12_letters_109 (by decide) ?_
    refine ev_bipush (v := 97) dd_X12_letters_111 (by decide) ?_
    refine ev_bipush (v := 114) dd_X12_letters_113 (by decide) ?_
    refine ev_iconst (v := 0) dd_X12_letters_115 (by decide) ?_
    refine ev_iconst (v := 0) dd_X12_letters_116 (by decide) ?_
    refine ev_iconst (v := 0) dd_X12_letters_117 (by decide) ?_
    refine ev_callSJ (As := [.int 102, .int 97, .int 114, .int 0, .int 0, .int 0]) cl_RX12_201 (ct_X12_spelled l hl G 102 97 114 0 0 0 M) dd_X12_letters_118 (by decide) (Nat.le_of_ble_eq_true rfl) (Nat.le_of_ble_eq_true rfl) rfl rfl (fun r3 M3 => ?_)
    exact ev_lret dd_X12_letters_121 rfl (Nat.le_of_ble_eq_true rfl) rfl
  refine ev_it (fun hs4 => ?_) (fun hs4 => ?_)
  · refine ev_tabIn (off := 121) (tgt := 122) dd_X12_letters_1 3 hs4 (by decide +kernel) ?_
    refine ev_bipush (v := 115) dd_X12_letters_122 (by decide) ?_
    refine ev_bipush (v := 111) dd_X12_letters_124 (by decide) ?_
    refine ev_bipush (v := 114) dd_X12_letters_126 (by decide) ?_
    refine ev_bipush (v := 116) dd_X12_letters_128 (by decide) ?_
    refine ev_iconst (v := 0) dd_X12_letters_130 (by decide) ?_
    refine ev_iconst (v := 0) dd_X12_letters_131 (by decide) ?_
    refine ev_callSJ (As := [.int 115, .int 111, .int 114, .int 116, .int 0, .int 0]) cl_RX12_201 (ct_X12_spelled l hl G 115 111 114 116 0 0 M) dd_X12_letters_132 (by decide) (Nat.le_of_ble_eq_true rfl) (Nat.le_of_ble_eq_true rfl) rfl rfl (fun r4 M4 => ?_)
    exact ev_lret dd_X12_letters_135 rfl (Nat.le_of_ble_eq_true rfl) rfl
  refine ev_it (fun hs5 => ?_) (fun hs5 => ?_)
  · refine ev_tabIn (off := 135) (tgt := 136) dd_X12_letters_1 4 hs5 (by decide +kernel) ?_
    refine ev_bipush (v := 111) dd_X12_letters_136 (by decide) ?_
    refine ev_bipush (v := 116) dd_X12_letters_138 (by decide) ?_
    refine ev_bipush (v := 104) dd_X12_letters_140 (by decide) ?_
    refine ev_bipush (v := 101) dd_X12_letters_142 (by decide) ?_
    refine ev_bipush (v := 114) dd_X12_letters_144 (by decide) ?_
    refine ev_iconst (v := 0) dd_X12_letters_146 (by decide) ?_
    refine ev_callSJ (As := [.int 111, .int 116, .int 104, .int 101, .int 114, .int 0]) cl_RX12_201 (ct_X12_spelled l hl G 111 116 104 101 114 0 M) dd_X12_letters_147 (by decide) (Nat.le_of_ble_eq_true rfl) (Nat.le_of_ble_eq_true rfl) rfl rfl (fun r5 M5 => ?_)
    exact ev_lret dd_X12_letters_150 rfl (Nat.le_of_ble_eq_true rfl) rfl
  refine ev_it (fun hs6 => ?_) (fun hs6 => ?_)
  · refine ev_tabIn (off := 150) (tgt := 151) dd_X12_letters_1 5 hs6 (by decide +kernel) ?_
    refine ev_bipush (v := 100) dd_X12_letters_151 (by decide) ?_
    refine ev_bipush (v := 101) dd_X12_letters_153 (by decide) ?_
    refine ev_bipush (v := 98) dd_X12_letters_155 (by decide) ?_
    refine ev_bipush (v := 116) dd_X12_letters_157 (by decide) ?_
    refine ev_iconst (v := 0) dd_X12_letters_159 (by decide) ?_
    refine ev_iconst (v := 0) dd_X12_letters_160 (by decide) ?_
    refine ev_callSJ (As := [.int 100, .int 101, .int 98, .int 116, .int 0, .int 0]) cl_RX12_201 (ct_X12_spelled l hl G 100 101 98 116 0 0 M) dd_X12_letters_161 (by decide) (Nat.le_of_ble_eq_true rfl) (Nat.le_of_ble_eq_true rfl) rfl rfl (fun r6 M6 => ?_)
    exact ev_lret dd_X12_letters_164 rfl (Nat.le_of_ble_eq_true rfl) rfl
  refine ev_it (fun hs7 => ?_) (fun hs7 => ?_)
  · refine ev_tabIn (off := 164) (tgt := 165) dd_X12_letters_1 6 hs7 (by decide +kernel) ?_
    refine ev_bipush (v := 121) dd_X12_letters_165 (by decide) ?_
    refine ev_bipush (v := 101) dd_X12_letters_167 (by decide) ?_
    refine ev_bipush (v := 97) dd_X12_letters_169 (by decide) ?_
    refine ev_bipush (v := 114) dd_X12_letters_171 (by decide) ?_
    refine ev_iconst (v := 0) dd_X12_letters_173 (by decide) ?_
    refine ev_iconst (v := 0) dd_X12_letters_174 (by decide) ?_
    refine ev_callSJ (As := [.int 121, .int 101, .int 97, .int 114, .int 0, .int 0]) cl_RX12_201 (ct_X12_spelled l hl G 121 101 97 114 0 0 M) dd_X12_letters_175 (by decide) (Nat.le_of_ble_eq_true rfl) (Nat.le_of_ble_eq_true rfl) rfl rfl (fun r7 M7 => ?_)
    exact ev_lret dd_X12_letters_178 rfl (Nat.le_of_ble_eq_true rfl) rfl
  refine ev_it (fun hs8 => ?_) (fun hs8 => ?_)
  · refine ev_tabIn (off := 178) (tgt := 179) dd_X12_letters_1 7 hs8 (by decide +kernel) ?_
    refine ev_bipush (v := 110) dd_X12_letters_179 (by decide) ?_
    refine ev_bipush (v := 97) dd_X12_letters_181 (by decide) ?_
    refine ev_bipush (v := 109) dd_X12_letters_183 (by decide) ?_
    refine ev_bipush (v := 101) dd_X12_letters_185 (by decide) ?_
    refine ev_iconst (v := 0) dd_X12_letters_187 (by decide) ?_
    refine ev_iconst (v := 0) dd_X12_letters_188 (by decide) ?_
    refine ev_callSJ (As := [.int 110, .int 97, .int 109, .int 101, .int 0, .int 0]) cl_RX12_201 (ct_X12_spelled l hl G 110 97 109 101 0 0 M) dd_X12_letters_189 (by decide) (Nat.le_of_ble_eq_true rfl) (Nat.le_of_ble_eq_true rfl) rfl rfl (fun r8 M8 => ?_)
    exact ev_lret dd_X12_letters_192 rfl (Nat.le_of_ble_eq_true rfl) rfl
  refine ev_it (fun hs9 => ?_) (fun hs9 => ?_)
  · refine ev_tabIn (off := 192) (tgt := 193) dd_X12_letters_1 8 hs9 (by decide +kernel) ?_
    refine ev_bipush (v := 99) dd_X12_letters_193 (by decide) ?_
    refine ev_bipush (v := 111) dd_X12_letters_195 (by decide) ?_
    refine ev_bipush (v := 108) dd_X12_letters_197 (by decide) ?_
    refine ev_bipush (v := 111) dd_X12_letters_199 (by decide) ?_
    refine ev_bipush (v := 110) dd_X12_letters_201 (by decide) ?_
    refine ev_bipush (v := 121) dd_X12_letters_203 (by decide) ?_
    refine ev_callSJ (As := [.int 99, .int 111, .int 108, .int 111, .int 110, .int 121]) cl_RX12_201 (ct_X12_spelled l hl G 99 111 108 111 110 121 M) dd_X12_letters_205 (by decide) (Nat.le_of_ble_eq_true rfl) (Nat.le_of_ble_eq_true rfl) rfl rfl (fun r9 M9 => ?_)
    exact ev_lret dd_X12_letters_208 rfl (Nat.le_of_ble_eq_true rfl) rfl
  refine ev_it (fun hs10 => ?_) (fun hs10 => ?_)
  · refine ev_tabIn (off := 208) (tgt := 209) dd_X12_letters_1 9 hs10 (by decide +kernel) ?_
    refine ev_bipush (v := 110) dd_X12_letters_209 (by decide) ?_
    refine ev_bipush (v := 111) dd_X12_letters_211 (by decide) ?_
    refine ev_bipush (v := 114) dd_X12_letters_213 (by decide) ?_
    refine ev_bipush (v := 116) dd_X12_letters_215 (by decide) ?_
    refine ev_bipush (v := 104) dd_X12_letters_217 (by decide) ?_
    refine ev_iconst (v := 0) dd_X12_letters_219 (by decide) ?_
    refine ev_callSJ (As := [.int 110, .int 111, .int 114, .int 116, .int 104, .int 0]) cl_RX12_201 (ct_X12_spelled l hl G 110 111 114 116 104 0 M) dd_X12_letters_220 (by decide) (Nat.le_of_ble_eq_true rfl) (Nat.le_of_ble_eq_true rfl) rfl rfl (fun r10 M10 => ?_)
    exact ev_lret dd_X12_letters_223 rfl (Nat.le_of_ble_eq_true rfl) rfl
  refine ev_it (fun hs11 => ?_) (fun hs11 => ?_)
  · refine ev_tabIn (off := 223) (tgt := 224) dd_X12_letters_1 10 hs11 (by decide +kernel) ?_
    refine ev_bipush (v := 119) dd_X12_letters_224 (by decide) ?_
    refine ev_bipush (v := 105) dd_X12_letters_226 (by decide) ?_
    refine ev_bipush (v := 115) dd_X12_letters_228 (by decide) ?_
    refine ev_bipush (v := 104) dd_X12_letters_230 (by decide) ?_
    refine ev_iconst (v := 0) dd_X12_letters_232 (by decide) ?_
    refine ev_iconst (v := 0) dd_X12_letters_233 (by decide) ?_
    refine ev_callSJ (As := [.int 119, .int 105, .int 115, .int 104, .int 0, .int 0]) cl_RX12_201 (ct_X12_spelled l hl G 119 105 115 104 0 0 M) dd_X12_letters_234 (by decide) (Nat.le_of_ble_eq_true rfl) (Nat.le_of_ble_eq_true rfl) rfl rfl (fun r11 M11 => ?_)
    exact ev_lret dd_X12_letters_237 rfl (Nat.le_of_ble_eq_true rfl) rfl
  refine ev_it (fun hs12 => ?_) (fun hs12 => ?_)
  · refine ev_tabIn (off := 237) (tgt := 238) dd_X12_letters_1 11 hs12 (by decide +kernel) ?_
    refine ev_bipush (v := 102) dd_X12_letters_238 (by decide) ?_
    refine ev_bipush (v := 97) dd_X12_letters_240 (by decide) ?_
    refine ev_bipush (v := 105) dd_X12_letters_242 (by decide) ?_
    refine ev_bipush (v := 114) dd_X12_letters_244 (by decide) ?_
    refine ev_iconst (v := 0) dd_X12_letters_246 (by decide) ?_
    refine ev_iconst (v := 0) dd_X12_letters_247 (by decide) ?_
    refine ev_callSJ (As := [.int 102, .int 97, .int 105, .int 114, .int 0, .int 0]) cl_RX12_201 (ct_X12_spelled l hl G 102 97 105 114 0 0 M) dd_X12_letters_248 (by decide) (Nat.le_of_ble_eq_true rfl) (Nat.le_of_ble_eq_true rfl) rfl rfl (fun r12 M12 => ?_)
    exact ev_lret dd_X12_letters_251 rfl (Nat.le_of_ble_eq_true rfl) rfl
  refine ev_it (fun hs13 => ?_) (fun hs13 => ?_)
  · refine ev_tabIn (off := 251) (tgt := 252) dd_X12_letters_1 12 hs13 (by decide +kernel) ?_
    refine ev_bipush (v := 115) dd_X12_letters_252 (by decide) ?_
    refine ev_bipush (v := 112) dd_X12_letters_254 (by decide) ?_
    refine ev_bipush (v := 101) dd_X12_letters_256 (by decide) ?_
    refine ev_bipush (v := 101) dd_X12_letters_258 (by decide) ?_
    refine ev_bipush (v := 100) dd_X12_letters_260 (by decide) ?_
    refine ev_iconst (v := 0) dd_X12_letters_262 (by decide) ?_
    refine ev_callSJ (As := [.int 115, .int 112, .int 101, .int 101, .int 100, .int 0]) cl_RX12_201 (ct_X12_spelled l hl G 115 112 101 101 100 0 M) dd_X12_letters_263 (by decide) (Nat.le_of_ble_eq_true rfl) (Nat.le_of_ble_eq_true rfl) rfl rfl (fun r13 M13 => ?_)
    exact ev_lret dd_X12_letters_266 rfl (Nat.le_of_ble_eq_true rfl) rfl
  refine ev_it (fun hs14 => ?_) (fun hs14 => ?_)
  · refine ev_tabIn (off := 266) (tgt := 267) dd_X12_letters_1 13 hs14 (by decide +kernel) ?_
    refine ev_bipush (v := 108) dd_X12_letters_267 (by decide) ?_
    refine ev_bipush (v := 97) dd_X12_letters_269 (by decide) ?_
    refine ev_bipush (v := 119) dd_X12_letters_271 (by decide) ?_
    refine ev_iconst (v := 0) dd_X12_letters_273 (by decide) ?_
    refine ev_iconst (v := 0) dd_X12_letters_274 (by decide) ?_
    refine ev_iconst (v := 0) dd_X12_letters_275 (by decide) ?_
    refine ev_callSJ (As := [.int 108, .int 97, .int 119, .int 0, .int 0, .int 0]) cl_RX12_201 (ct_X12_spelled l hl G 108 97 119 0 0 0 M) dd_X12_letters_276 (by decide) (Nat.le_of_ble_eq_true rfl) (Nat.le_of_ble_eq_true rfl) rfl rfl (fun r14 M14 => ?_)
    exact ev_lret dd_X12_letters_279 rfl (Nat.le_of_ble_eq_true rfl) rfl
  refine ev_it (fun hs15 => ?_) (fun hs15 => ?_)
  · refine ev_tabIn (off := 279) (tgt := 280) dd_X12_letters_1 14 hs15 (by decide +kernel) ?_
    refine ev_bipush (v := 97) dd_X12_letters_280 (by decide) ?_
    refine ev_bipush (v := 110) dd_X12_letters_282 (by decide) ?_
    refine ev_bipush (v := 100) dd_X12_letters_284 (by decide) ?_
    refine ev_iconst (v := 0) dd_X12_letters_286 (by decide) ?_
    refine ev_iconst (v := 0) dd_X12_letters_287 (by decide) ?_
    refine ev_iconst (v := 0) dd_X12_letters_288 (by decide) ?_
    refine ev_callSJ (As := [.int 97, .int 110, .int 100, .int 0, .int 0, .int 0]) cl_RX12_201 (ct_X12_spelled l hl G 97 110 100 0 0 0 M) dd_X12_letters_289 (by decide) (Nat.le_of_ble_eq_true rfl) (Nat.le_of_ble_eq_true rfl) rfl rfl (fun r15 M15 => ?_)
    exact ev_lret dd_X12_letters_292 rfl (Nat.le_of_ble_eq_true rfl) rfl
  refine ev_it (fun hs16 => ?_) (fun hs16 => ?_)
  · refine ev_tabIn (off := 292) (tgt := 293) dd_X12_letters_1 15 hs16 (by decide +kernel) ?_
    refine ev_bipush (v := 111) dd_X12_letters_293 (by decide) ?_
    refine ev_bipush (v := 114) dd_X12_letters_295 (by decide) ?_
    refine ev_iconst (v := 0) dd_X12_letters_297 (by decide) ?_
    refine ev_iconst (v := 0) dd_X12_letters_298 (by decide) ?_
    refine ev_iconst (v := 0) dd_X12_letters_299 (by decide) ?_
    refine ev_iconst (v := 0) dd_X12_letters_300 (by decide) ?_
    refine ev_callSJ (As := [.int 111, .int 114, .int 0, .int 0, .int 0, .int 0]) cl_RX12_201 (ct_X12_spelled l hl G 111 114 0 0 0 0 M) dd_X12_letters_301 (by decide) (Nat.le_of_ble_eq_true rfl) (Nat.le_of_ble_eq_true rfl) rfl rfl (fun r16 M16 => ?_)
    exact ev_lret dd_X12_letters_304 rfl (Nat.le_of_ble_eq_true rfl) rfl
  refine ev_tabOut (tgt := 305) dd_X12_letters_1 (by have e0 := i32ne hs1 (n := 0) (by decide); have e1 := i32ne hs2 (n := 1) (by decide); have e2 := i32ne hs3 (n := 2) (by decide); have e3 := i32ne hs4 (n := 3) (by decide); have e4 := i32ne hs5 (n := 4) (by decide); have e5 := i32ne hs6 (n := 5) (by decide); have e6 := i32ne hs7 (n := 6) (by decide); have e7 := i32ne hs8 (n := 7) (by decide); have e8 := i32ne hs9 (n := 8) (by decide); have e9 := i32ne hs10 (n := 9) (by decide); have e10 := i32ne hs11 (n := 10) (by decide); have e11 := i32ne hs12 (n := 11) (by decide); have e12 := i32ne hs13 (n := 12) (by decide); have e13 := i32ne hs14 (n := 13) (by decide); have e14 := i32ne hs15 (n := 14) (by decide); have e15 := i32ne hs16 (n := 15) (by decide); omega) (by decide) ?_
  refine ev_bipush (v := 110) dd_X12_letters_305 (by decide) ?_
  refine ev_bipush (v := 111) dd_X12_letters_307 (by decide) ?_
  refine ev_bipush (v := 116) dd_X12_letters_309 (by decide) ?_
  refine ev_iconst (v := 0) dd_X12_letters_311 (by decide) ?_
  refine ev_iconst (v := 0) dd_X12_letters_312 (by decide) ?_
  refine ev_iconst (v := 0) dd_X12_letters_313 (by decide) ?_
  refine ev_callSJ (As := [.int 110, .int 111, .int 116, .int 0, .int 0, .int 0]) cl_RX12_201 (ct_X12_spelled l hl G 110 111 116 0 0 0 M) dd_X12_letters_314 (by decide) (Nat.le_of_ble_eq_true rfl) (Nat.le_of_ble_eq_true rfl) rfl rfl (fun r17 M17 => ?_)
  exact ev_lret dd_X12_letters_317 rfl (Nat.le_of_ble_eq_true rfl) rfl
/-! X12_knownWord -/
theorem dd_X12_knownWord_0 : decode Y_X12_knownWord.2.1 0 = .ok (.aload_n 0, 1) := by decide +kernel
theorem dd_X12_knownWord_1 : decode Y_X12_knownWord.2.1 1 = .ok (.getfield 186, 3) := by decide +kernel
theorem dd_X12_knownWord_4 : decode Y_X12_knownWord.2.1 4 = .ok (.iconst 1, 1) := by decide +kernel
theorem dd_X12_knownWord_5 : decode Y_X12_knownWord.2.1 5 = .ok (.if_icmp .ne 12, 3) := by decide +kernel
theorem dd_X12_knownWord_8 : decode Y_X12_knownWord.2.1 8 = .ok (.aload_n 0, 1) := by decide +kernel
theorem dd_X12_knownWord_9 : decode Y_X12_knownWord.2.1 9 = .ok (.getfield 196, 3) := by decide +kernel
theorem dd_X12_knownWord_12 : decode Y_X12_knownWord.2.1 12 = .ok (.bipush 6, 2) := by decide +kernel
theorem dd_X12_knownWord_14 : decode Y_X12_knownWord.2.1 14 = .ok (.if_icmp .le 5, 3) := by decide +kernel
theorem dd_X12_knownWord_17 : decode Y_X12_knownWord.2.1 17 = .ok (.iconst (-1), 1) := by decide +kernel
theorem dd_X12_knownWord_18 : decode Y_X12_knownWord.2.1 18 = .ok (.ireturn, 1) := by decide +kernel
theorem dd_X12_knownWord_19 : decode Y_X12_knownWord.2.1 19 = .ok (.iconst 0, 1) := by decide +kernel
theorem dd_X12_knownWord_20 : decode Y_X12_knownWord.2.1 20 = .ok (.istore_n 1, 1) := by decide +kernel
theorem dd_X12_knownWord_21 : decode Y_X12_knownWord.2.1 21 = .ok (.iload_n 1, 1) := by decide +kernel
theorem dd_X12_knownWord_22 : decode Y_X12_knownWord.2.1 22 = .ok (.bipush 17, 2) := by decide +kernel
theorem dd_X12_knownWord_24 : decode Y_X12_knownWord.2.1 24 = .ok (.if_icmp .ge 23, 3) := by decide +kernel
theorem dd_X12_knownWord_27 : decode Y_X12_knownWord.2.1 27 = .ok (.iload_n 1, 1) := by decide +kernel
theorem dd_X12_knownWord_28 : decode Y_X12_knownWord.2.1 28 = .ok (.invokestatic 205, 3) := by decide +kernel
theorem dd_X12_knownWord_31 : decode Y_X12_knownWord.2.1 31 = .ok (.aload_n 0, 1) := by decide +kernel
theorem dd_X12_knownWord_32 : decode Y_X12_knownWord.2.1 32 = .ok (.getfield 176, 3) := by decide +kernel
theorem dd_X12_knownWord_35 : decode Y_X12_knownWord.2.1 35 = .ok (.lcmp, 1) := by decide +kernel
theorem dd_X12_knownWord_36 : decode Y_X12_knownWord.2.1 36 = .ok (.ifCond .ne 5, 3) := by decide +kernel
theorem dd_X12_knownWord_39 : decode Y_X12_knownWord.2.1 39 = .ok (.iload_n 1, 1) := by decide +kernel
theorem dd_X12_knownWord_40 : decode Y_X12_knownWord.2.1 40 = .ok (.ireturn, 1) := by decide +kernel
theorem dd_X12_knownWord_41 : decode Y_X12_knownWord.2.1 41 = .ok (.iinc 1 1, 3) := by decide +kernel
theorem dd_X12_knownWord_44 : decode Y_X12_knownWord.2.1 44 = .ok (.goto (-23), 3) := by decide +kernel
theorem dd_X12_knownWord_47 : decode Y_X12_knownWord.2.1 47 = .ok (.iconst (-1), 1) := by decide +kernel
theorem dd_X12_knownWord_48 : decode Y_X12_knownWord.2.1 48 = .ok (.ireturn, 1) := by decide +kernel
def F_X12_knownWord_L21 (x0 : Nat) (K47 : zM → zO) : Nat → Int32 → zM → zO
  | 0, _, _ => none
  | n + 1, x1, M => zit (17 ≤ x1) (K47 M) (zbJ (F_X12_letters x1 M) (fun r1 M1 => zit ((lg_cmp r1 (zgL M1 x0 26)) = 0) (zI x1 M1) (F_X12_knownWord_L21 x0 K47 n (x1 + 1) M1)))
def F_X12_knownWord (t : Nat) (M : zM) : zO := zjo (fun  (M3 : zM) => zI (-1) M3) (fun (k1 : zM → zO) => zit ((M t 21) = 1) (zit ((M t 23) ≤ 6) (F_X12_knownWord_L21 t (fun  (M2 : zM) => zI (-1) M2) zN 0 M) (k1 M)) (k1 M))
set_option maxHeartbeats 1000000 in
set_option maxRecDepth 20000 in
theorem ct_X12_knownWord_L21 (l : Launch) (hl : l.stackTraces = false) (G : zG) (x0 : Nat) (hx0 : zsh x0 = 12) (K47 : zM → zO) (hK47 : ∀  (M : zM), zEv l G Y_X12_knownWord 3 0 47 [] [] M (K47 M)) : ∀ (n : Nat) (x1 : Int32) (M : zM), zEv l G Y_X12_knownWord 3 0 21 [(0, .ref (G.2.1 + x0)), (1, .int x1)] [] M (F_X12_knownWord_L21 x0 K47 n x1 M) := by
  intro n
  induction n with
  | zero => intro x1 M; exact ev_none
  | succ n ih =>
    intro x1 M
    show zEv l G Y_X12_knownWord 3 0 21 [(0, .ref (G.2.1 + x0)), (1, .int x1)] [] M (zit (17 ≤ x1) (K47 M) (zbJ (F_X12_letters x1 M) (fun r1 M1 => zit ((lg_cmp r1 (zgL M1 x0 26)) = 0) (zI x1 M1) (F_X12_knownWord_L21 x0 K47 n (x1 + 1) M1))))
    refine ev_iload_n dd_X12_knownWord_21 1 rfl ?_
    refine ev_bipush (v := 17) dd_X12_knownWord_22 (by decide) ?_
    refine ev_icmp_ge 47 dd_X12_knownWord_24 (by decide) ?_ ?_
    · refine ev_lv (lv' := []) [] rfl ?_
      exact hK47 _
    · refine ev_iload_n dd_X12_knownWord_27 1 rfl ?_
      refine ev_callSJ (As := [.int x1]) cl_RX12_205 (ct_X12_letters l hl G x1 M) dd_X12_knownWord_28 (by decide) (Nat.le_of_ble_eq_true rfl) (Nat.le_of_ble_eq_true rfl) rfl rfl (fun r1 M1 => ?_)
      refine ev_aload_n dd_X12_knownWord_31 0 rfl ?_
      refine ev_getL gf_RX12_176 dd_X12_knownWord_32 hx0 (by decide) ?_
      refine ev_lcmp dd_X12_knownWord_35 ?_
      refine ev_if_ne 41 dd_X12_knownWord_36 (by decide) ?_ ?_
      · refine ev_iinc (j := 1) (v := 1) (lv' := [(0, .ref (G.2.1 + x0)), (1, .int (x1 + 1))]) [1, 0] dd_X12_knownWord_41 rfl (by decide) (by decide) rfl ?_
        refine ev_goto 21 dd_X12_knownWord_44 (by decide) ?_
        exact ih _ _
      · refine ev_lv (lv' := [(1, .int x1)]) [1] rfl ?_
        refine ev_iload_n dd_X12_knownWord_39 0 rfl ?_
        refine ev_lv (lv' := []) [] rfl ?_
        exact ev_iret dd_X12_knownWord_40 rfl (Nat.le_of_ble_eq_true rfl) rfl
set_option maxHeartbeats 1000000 in
set_option maxRecDepth 20000 in
theorem ct_X12_knownWord (l : Launch) (hl : l.stackTraces = false) (G : zG) (t : Nat) (ht : zsh t = 12) (M : zM) : zMt l G Y_X12_knownWord 3 [.ref (G.2.1 + t)] M (F_X12_knownWord t M) := by
  refine zMt_of (by decide +kernel) (Nat.le_of_ble_eq_true rfl) ?_
  show zEv l G Y_X12_knownWord 3 0 0 [(0, .ref (G.2.1 + t))] [] M (zjo (fun  (M3 : zM) => zI (-1) M3) (fun (k1 : zM → zO) => zit ((M t 21) = 1) (zit ((M t 23) ≤ 6) (F_X12_knownWord_L21 t (fun  (M2 : zM) => zI (-1) M2) zN 0 M) (k1 M)) (k1 M)))
  refine ev_aload_n dd_X12_knownWord_0 0 rfl ?_
  refine ev_getI gf_RX12_186 dd_X12_knownWord_1 ht (by decide) ?_
  refine ev_iconst (v := 1) dd_X12_knownWord_4 (by decide) ?_
  refine ev_jo (fun (k1 : zM → zO) => ∀  (M3 : zM), zEv l G Y_X12_knownWord 3 0 17 [] [] M3 (k1 M3)) ?_ (fun k1 hk1 => ?_)
  · intro M3
    refine ev_iconst (v := (-1)) dd_X12_knownWord_17 (by decide) ?_
    exact ev_iret dd_X12_knownWord_18 rfl (Nat.le_of_ble_eq_true rfl) rfl
  · refine ev_icmp_ne 17 dd_X12_knownWord_5 (by decide) ?_ ?_
    · refine ev_lv (lv' := []) [] rfl ?_
      exact hk1 _
    · refine ev_aload_n dd_X12_knownWord_8 0 rfl ?_
      refine ev_getI gf_RX12_196 dd_X12_knownWord_9 ht (by decide) ?_
      refine ev_bipush (v := 6) dd_X12_knownWord_12 (by decide) ?_
      refine ev_icmp_le 19 dd_X12_knownWord_14 (by decide) ?_ ?_
      · refine ev_iconst (v := 0) dd_X12_knownWord_19 (by decide) ?_
        refine ev_istore_n (i := 1) (lv' := [(0, .ref (G.2.1 + t)), (1, .int 0)]) [1, 0] dd_X12_knownWord_20 rfl (by decide) rfl ?_
        refine ct_X12_knownWord_L21 l hl G t ht _ (fun M2 => ?_) zN _ _
        refine ev_iconst (v := (-1)) dd_X12_knownWord_47 (by decide) ?_
        exact ev_iret dd_X12_knownWord_48 rfl (Nat.le_of_ble_eq_true rfl) rfl
      · refine ev_lv (lv' := []) [] rfl ?_
        exact hk1 _
/-! X12_part -/
theorem dd_X12_part_0 : decode Y_X12_part.2.1 0 = .ok (.aload_n 0, 1) := by decide +kernel
theorem dd_X12_part_1 : decode Y_X12_part.2.1 1 = .ok (.invokevirtual 212, 3) := by decide +kernel
theorem dd_X12_part_4 : decode Y_X12_part.2.1 4 = .ok (.ifCond .ne 4, 3) := by decide +kernel
theorem dd_X12_part_7 : decode Y_X12_part.2.1 7 = .ok (.return_, 1) := by decide +kernel
theorem dd_X12_part_8 : decode Y_X12_part.2.1 8 = .ok (.aload_n 0, 1) := by decide +kernel
theorem dd_X12_part_9 : decode Y_X12_part.2.1 9 = .ok (.getfield 186, 3) := by decide +kernel
theorem dd_X12_part_12 : decode Y_X12_part.2.1 12 = .ok (.iconst 2, 1) := by decide +kernel
theorem dd_X12_part_13 : decode Y_X12_part.2.1 13 = .ok (.if_icmp .ne 32, 3) := by decide +kernel
theorem dd_X12_part_16 : decode Y_X12_part.2.1 16 = .ok (.aload_n 0, 1) := by decide +kernel
theorem dd_X12_part_17 : decode Y_X12_part.2.1 17 = .ok (.getfield 196, 3) := by decide +kernel
theorem dd_X12_part_20 : decode Y_X12_part.2.1 20 = .ok (.iconst 4, 1) := by decide +kernel
theorem dd_X12_part_21 : decode Y_X12_part.2.1 21 = .ok (.if_icmp .le 8, 3) := by decide +kernel
theorem dd_X12_part_24 : decode Y_X12_part.2.1 24 = .ok (.aload_n 0, 1) := by decide +kernel
theorem dd_X12_part_25 : decode Y_X12_part.2.1 25 = .ok (.iconst 2, 1) := by decide +kernel
theorem dd_X12_part_26 : decode Y_X12_part.2.1 26 = .ok (.invokevirtual 219, 3) := by decide +kernel
theorem dd_X12_part_29 : decode Y_X12_part.2.1 29 = .ok (.aload_n 0, 1) := by decide +kernel
theorem dd_X12_part_30 : decode Y_X12_part.2.1 30 = .ok (.iconst 1, 1) := by decide +kernel
theorem dd_X12_part_31 : decode Y_X12_part.2.1 31 = .ok (.invokevirtual 237, 3) := by decide +kernel
theorem dd_X12_part_34 : decode Y_X12_part.2.1 34 = .ok (.aload_n 0, 1) := by decide +kernel
theorem dd_X12_part_35 : decode Y_X12_part.2.1 35 = .ok (.aload_n 0, 1) := by decide +kernel
theorem dd_X12_part_36 : decode Y_X12_part.2.1 36 = .ok (.getfield 180, 3) := by decide +kernel
theorem dd_X12_part_39 : decode Y_X12_part.2.1 39 = .ok (.invokevirtual 237, 3) := by decide +kernel
theorem dd_X12_part_42 : decode Y_X12_part.2.1 42 = .ok (.goto 49, 3) := by decide +kernel
theorem dd_X12_part_45 : decode Y_X12_part.2.1 45 = .ok (.aload_n 0, 1) := by decide +kernel
theorem dd_X12_part_46 : decode Y_X12_part.2.1 46 = .ok (.getfield 186, 3) := by decide +kernel
theorem dd_X12_part_49 : decode Y_X12_part.2.1 49 = .ok (.iconst 1, 1) := by decide +kernel
theorem dd_X12_part_50 : decode Y_X12_part.2.1 50 = .ok (.if_icmp .ne 36, 3) := by decide +kernel
theorem dd_X12_part_53 : decode Y_X12_part.2.1 53 = .ok (.aload_n 0, 1) := by decide +kernel
theorem dd_X12_part_54 : decode Y_X12_part.2.1 54 = .ok (.invokevirtual 240, 3) := by decide +kernel
theorem dd_X12_part_57 : decode Y_X12_part.2.1 57 = .ok (.istore_n 1, 1) := by decide +kernel
theorem dd_X12_part_58 : decode Y_X12_part.2.1 58 = .ok (.iload_n 1, 1) := by decide +kernel
theorem dd_X12_part_59 : decode Y_X12_part.2.1 59 = .ok (.ifCond .lt 9, 3) := by decide +kernel
theorem dd_X12_part_62 : decode Y_X12_part.2.1 62 = .ok (.iload_n 1, 1) := by decide +kernel
theorem dd_X12_part_63 : decode Y_X12_part.2.1 63 = .ok (.bipush 6, 2) := by decide +kernel
theorem dd_X12_part_65 : decode Y_X12_part.2.1 65 = .ok (.if_icmp .le 8, 3) := by decide +kernel
theorem dd_X12_part_68 : decode Y_X12_part.2.1 68 = .ok (.aload_n 0, 1) := by decide +kernel
theorem dd_X12_part_69 : decode Y_X12_part.2.1 69 = .ok (.iconst 3, 1) := by decide +kernel
theorem dd_X12_part_70 : decode Y_X12_part.2.1 70 = .ok (.invokevirtual 219, 3) := by decide +kernel
theorem dd_X12_part_73 : decode Y_X12_part.2.1 73 = .ok (.aload_n 0, 1) := by decide +kernel
theorem dd_X12_part_74 : decode Y_X12_part.2.1 74 = .ok (.iconst 2, 1) := by decide +kernel
theorem dd_X12_part_75 : decode Y_X12_part.2.1 75 = .ok (.invokevirtual 237, 3) := by decide +kernel
theorem dd_X12_part_78 : decode Y_X12_part.2.1 78 = .ok (.aload_n 0, 1) := by decide +kernel
theorem dd_X12_part_79 : decode Y_X12_part.2.1 79 = .ok (.iload_n 1, 1) := by decide +kernel
theorem dd_X12_part_80 : decode Y_X12_part.2.1 80 = .ok (.invokevirtual 237, 3) := by decide +kernel
theorem dd_X12_part_83 : decode Y_X12_part.2.1 83 = .ok (.goto 8, 3) := by decide +kernel
theorem dd_X12_part_86 : decode Y_X12_part.2.1 86 = .ok (.aload_n 0, 1) := by decide +kernel
theorem dd_X12_part_87 : decode Y_X12_part.2.1 87 = .ok (.iconst 1, 1) := by decide +kernel
theorem dd_X12_part_88 : decode Y_X12_part.2.1 88 = .ok (.invokevirtual 219, 3) := by decide +kernel
theorem dd_X12_part_91 : decode Y_X12_part.2.1 91 = .ok (.aload_n 0, 1) := by decide +kernel
theorem dd_X12_part_92 : decode Y_X12_part.2.1 92 = .ok (.invokevirtual 212, 3) := by decide +kernel
theorem dd_X12_part_95 : decode Y_X12_part.2.1 95 = .ok (.ifCond .eq 7, 3) := by decide +kernel
theorem dd_X12_part_98 : decode Y_X12_part.2.1 98 = .ok (.aload_n 0, 1) := by decide +kernel
theorem dd_X12_part_99 : decode Y_X12_part.2.1 99 = .ok (.invokevirtual 216, 3) := by decide +kernel
theorem dd_X12_part_102 : decode Y_X12_part.2.1 102 = .ok (.return_, 1) := by decide +kernel
def F_X12_part (t : Nat) (M : zM) : zO := zbI (F_X12_isGood t M) (fun r1 M1 => zit (r1 = 0) (zV M1) (zjo (fun  (M13 : zM) => zbI (F_X12_isGood t M13) (fun r3 M14 => zjo (fun  (M16 : zM) => zV M16) (fun (k5 : zM → zO) => zit (r3 = 0) (k5 M14) (zbV (F_X12_goes t M14) (fun M15 => k5 M15))))) (fun (k1 : zM → zO) => zit ((M1 t 21) = 2) (zjo (fun  (M10 : zM) => zbV (F_X12_puts t 1 M10) (fun M11 => zbV (F_X12_puts t (M11 t 24) M11) (fun M12 => k1 M12))) (fun (k4 : zM → zO) => zit ((M1 t 23) ≤ 4) (k4 M1) (zbV (F_X12_wrong t 2 M1) (fun M9 => k4 M9)))) (zit ((M1 t 21) = 1) (zbI (F_X12_knownWord t M1) (fun r2 M3 => zjo (fun  (M6 : zM) => zbV (F_X12_puts t 2 M6) (fun M7 => zbV (F_X12_puts t r2 M7) (fun M8 => k1 M8))) (fun (k2 : zM → zO) => zjo (fun  (M4 : zM) => zbV (F_X12_wrong t 3 M4) (fun M5 => k2 M5)) (fun (k3 : zM → zO) => zit (r2 < 0) (k3 M3) (zit (r2 ≤ 6) (k2 M3) (k3 M3)))))) (zbV (F_X12_wrong t 1 M1) (fun M2 => k1 M2))))))
set_option maxHeartbeats 1000000 in
set_option maxRecDepth 20000 in
theorem ct_X12_part (l : Launch) (hl : l.stackTraces = false) (G : zG) (t : Nat) (ht : zsh t = 12) (M : zM) : zMt l G Y_X12_part 4 [.ref (G.2.1 + t)] M (F_X12_part t M) := by
  refine zMt_of (by decide +kernel) (Nat.le_of_ble_eq_true rfl) ?_
  show zEv l G Y_X12_part 4 0 0 [(0, .ref (G.2.1 + t))] [] M (zbI (F_X12_isGood t M) (fun r1 M1 => zit (r1 = 0) (zV M1) (zjo (fun  (M13 : zM) => zbI (F_X12_isGood t M13) (fun r3 M14 => zjo (fun  (M16 : zM) => zV M16) (fun (k5 : zM → zO) => zit (r3 = 0) (k5 M14) (zbV (F_X12_goes t M14) (fun M15 => k5 M15))))) (fun (k1 : zM → zO) => zit ((M1 t 21) = 2) (zjo (fun  (M10 : zM) => zbV (F_X12_puts t 1 M10) (fun M11 => zbV (F_X12_puts t (M11 t 24) M11) (fun M12 => k1 M12))) (fun (k4 : zM → zO) => zit ((M1 t 23) ≤ 4) (k4 M1) (zbV (F_X12_wrong t 2 M1) (fun M9 => k4 M9)))) (zit ((M1 t 21) = 1) (zbI (F_X12_knownWord t M1) (fun r2 M3 => zjo (fun  (M6 : zM) => zbV (F_X12_puts t 2 M6) (fun M7 => zbV (F_X12_puts t r2 M7) (fun M8 => k1 M8))) (fun (k2 : zM → zO) => zjo (fun  (M4 : zM) => zbV (F_X12_wrong t 3 M4) (fun M5 => k2 M5)) (fun (k3 : zM → zO) => zit (r2 < 0) (k3 M3) (zit (r2 ≤ 6) (k2 M3) (k3 M3)))))) (zbV (F_X12_wrong t 1 M1) (fun M2 => k1 M2)))))))
  refine ev_aload_n dd_X12_part_0 0 rfl ?_
  refine ev_callVI (As := []) cl_RX12_212 (ct_X12_isGood l hl G t ht M) dd_X12_part_1 ht (by decide) (Nat.le_of_ble_eq_true rfl) (Nat.le_of_ble_eq_true rfl) rfl rfl (fun r1 M1 => ?_)
  refine ev_if_ne 8 dd_X12_part_4 (by decide) ?_ ?_
  · refine ev_aload_n dd_X12_part_8 0 rfl ?_
    refine ev_getI gf_RX12_186 dd_X12_part_9 ht (by decide) ?_
    refine ev_iconst (v := 2) dd_X12_part_12 (by decide) ?_
    refine ev_jo (fun (k1 : zM → zO) => ∀  (M13 : zM), zEv l G Y_X12_part 4 0 91 [(0, .ref (G.2.1 + t))] [] M13 (k1 M13)) ?_ (fun k1 hk1 => ?_)
    · intro M13
      refine ev_aload_n dd_X12_part_91 0 rfl ?_
      refine ev_callVI (As := []) cl_RX12_212 (ct_X12_isGood l hl G t ht M13) dd_X12_part_92 ht (by decide) (Nat.le_of_ble_eq_true rfl) (Nat.le_of_ble_eq_true rfl) rfl rfl (fun r3 M14 => ?_)
      refine ev_jo (fun (k5 : zM → zO) => ∀  (M16 : zM), zEv l G Y_X12_part 4 0 102 [] [] M16 (k5 M16)) ?_ (fun k5 hk5 => ?_)
      · intro M16
        exact ev_vret dd_X12_part_102 rfl (Nat.le_of_ble_eq_true rfl) rfl
      · refine ev_if_eq 102 dd_X12_part_95 (by decide) ?_ ?_
        · refine ev_lv (lv' := []) [] rfl ?_
          exact hk5 _
        · refine ev_aload_n dd_X12_part_98 0 rfl ?_
          refine ev_lv (lv' := []) [] rfl ?_
          refine ev_callVV (As := []) cl_RX12_216 (ct_X12_goes l hl G t ht M14) dd_X12_part_99 ht (by decide) (Nat.le_of_ble_eq_true rfl) (Nat.le_of_ble_eq_true rfl) rfl rfl (fun M15 => ?_)
          exact hk5 _
    · refine ev_icmp_ne 45 dd_X12_part_13 (by decide) ?_ ?_
      · refine ev_aload_n dd_X12_part_45 0 rfl ?_
        refine ev_getI gf_RX12_186 dd_X12_part_46 ht (by decide) ?_
        refine ev_iconst (v := 1) dd_X12_part_49 (by decide) ?_
        refine ev_icmp_ne 86 dd_X12_part_50 (by decide) ?_ ?_
        · refine ev_aload_n dd_X12_part_86 0 rfl ?_
          refine ev_iconst (v := 1) dd_X12_part_87 (by decide) ?_
          refine ev_callVV (As := [.int 1]) cl_RX12_219 (ct_X12_wrong l hl G t ht 1 M1) dd_X12_part_88 ht (by decide) (Nat.le_of_ble_eq_true rfl) (Nat.le_of_ble_eq_true rfl) rfl rfl (fun M2 => ?_)
          exact hk1 _
        · refine ev_aload_n dd_X12_part_53 0 rfl ?_
          refine ev_callVI (As := []) cl_RX12_240 (ct_X12_knownWord l hl G t ht M1) dd_X12_part_54 ht (by decide) (Nat.le_of_ble_eq_true rfl) (Nat.le_of_ble_eq_true rfl) rfl rfl (fun r2 M3 => ?_)
          refine ev_istore_n (i := 1) (lv' := [(0, .ref (G.2.1 + t)), (1, .int r2)]) [1, 0] dd_X12_part_57 rfl (by decide) rfl ?_
          refine ev_iload_n dd_X12_part_58 1 rfl ?_
          refine ev_jo (fun (k2 : zM → zO) => ∀  (M6 : zM), zEv l G Y_X12_part 4 0 73 [(0, .ref (G.2.1 + t)), (1, .int r2)] [] M6 (k2 M6)) ?_ (fun k2 hk2 => ?_)
          · intro M6
            refine ev_aload_n dd_X12_part_73 0 rfl ?_
            refine ev_iconst (v := 2) dd_X12_part_74 (by decide) ?_
            refine ev_callVV (As := [.int 2]) cl_RX12_237 (ct_X12_puts l hl G t ht 2 M6) dd_X12_part_75 ht (by decide) (Nat.le_of_ble_eq_true rfl) (Nat.le_of_ble_eq_true rfl) rfl rfl (fun M7 => ?_)
            refine ev_aload_n dd_X12_part_78 0 rfl ?_
            refine ev_iload_n dd_X12_part_79 1 rfl ?_
            refine ev_lv (lv' := [(0, .ref (G.2.1 + t))]) [0] rfl ?_
            refine ev_callVV (As := [.int r2]) cl_RX12_237 (ct_X12_puts l hl G t ht r2 M7) dd_X12_part_80 ht (by decide) (Nat.le_of_ble_eq_true rfl) (Nat.le_of_ble_eq_true rfl) rfl rfl (fun M8 => ?_)
            refine ev_goto 91 dd_X12_part_83 (by decide) ?_
            exact hk1 _
          · refine ev_jo (fun (k3 : zM → zO) => ∀  (M4 : zM), zEv l G Y_X12_part 4 0 68 [(0, .ref (G.2.1 + t)), (1, .int r2)] [] M4 (k3 M4)) ?_ (fun k3 hk3 => ?_)
            · intro M4
              refine ev_aload_n dd_X12_part_68 0 rfl ?_
              refine ev_iconst (v := 3) dd_X12_part_69 (by decide) ?_
              refine ev_callVV (As := [.int 3]) cl_RX12_219 (ct_X12_wrong l hl G t ht 3 M4) dd_X12_part_70 ht (by decide) (Nat.le_of_ble_eq_true rfl) (Nat.le_of_ble_eq_true rfl) rfl rfl (fun M5 => ?_)
              exact hk2 _
            · refine ev_if_lt 68 dd_X12_part_59 (by decide) ?_ ?_
              · exact hk3 _
              · refine ev_iload_n dd_X12_part_62 1 rfl ?_
                refine ev_bipush (v := 6) dd_X12_part_63 (by decide) ?_
                refine ev_icmp_le 73 dd_X12_part_65 (by decide) ?_ ?_
                · exact hk2 _
                · exact hk3 _
      · refine ev_aload_n dd_X12_part_16 0 rfl ?_
        refine ev_getI gf_RX12_196 dd_X12_part_17 ht (by decide) ?_
        refine ev_iconst (v := 4) dd_X12_part_20 (by decide) ?_
        refine ev_jo (fun (k4 : zM → zO) => ∀  (M10 : zM), zEv l G Y_X12_part 4 0 29 [(0, .ref (G.2.1 + t))] [] M10 (k4 M10)) ?_ (fun k4 hk4 => ?_)
        · intro M10
          refine ev_aload_n dd_X12_part_29 0 rfl ?_
          refine ev_iconst (v := 1) dd_X12_part_30 (by decide) ?_
          refine ev_callVV (As := [.int 1]) cl_RX12_237 (ct_X12_puts l hl G t ht 1 M10) dd_X12_part_31 ht (by decide) (Nat.le_of_ble_eq_true rfl) (Nat.le_of_ble_eq_true rfl) rfl rfl (fun M11 => ?_)
          refine ev_aload_n dd_X12_part_34 0 rfl ?_
          refine ev_aload_n dd_X12_part_35 0 rfl ?_
          refine ev_getI gf_RX12_180 dd_X12_part_36 ht (by decide) ?_
          refine ev_callVV (As := [.int (M11 t 24)]) cl_RX12_237 (ct_X12_puts l hl G t ht (M11 t 24) M11) dd_X12_part_39 ht (by decide) (Nat.le_of_ble_eq_true rfl) (Nat.le_of_ble_eq_true rfl) rfl rfl (fun M12 => ?_)
          refine ev_goto 91 dd_X12_part_42 (by decide) ?_
          exact hk1 _
        · refine ev_icmp_le 29 dd_X12_part_21 (by decide) ?_ ?_
          · exact hk4 _
          · refine ev_aload_n dd_X12_part_24 0 rfl ?_
            refine ev_iconst (v := 2) dd_X12_part_25 (by decide) ?_
            refine ev_callVV (As := [.int 2]) cl_RX12_219 (ct_X12_wrong l hl G t ht 2 M1) dd_X12_part_26 ht (by decide) (Nat.le_of_ble_eq_true rfl) (Nat.le_of_ble_eq_true rfl) rfl rfl (fun M9 => ?_)
            exact hk4 _
  · refine ev_lv (lv' := []) [] rfl ?_
    exact ev_vret dd_X12_part_7 rfl (Nat.le_of_ble_eq_true rfl) rfl
/-! X12_waitsFor -/
theorem dd_X12_waitsFor_0 : decode Y_X12_waitsFor.2.1 0 = .ok (.aload_n 0, 1) := by decide +kernel
theorem dd_X12_waitsFor_1 : decode Y_X12_waitsFor.2.1 1 = .ok (.getfield 80, 3) := by decide +kernel
theorem dd_X12_waitsFor_4 : decode Y_X12_waitsFor.2.1 4 = .ok (.aload_n 0, 1) := by decide +kernel
theorem dd_X12_waitsFor_5 : decode Y_X12_waitsFor.2.1 5 = .ok (.getfield 228, 3) := by decide +kernel
theorem dd_X12_waitsFor_8 : decode Y_X12_waitsFor.2.1 8 = .ok (.iload_n 1, 1) := by decide +kernel
theorem dd_X12_waitsFor_9 : decode Y_X12_waitsFor.2.1 9 = .ok (.iastore, 1) := by decide +kernel
theorem dd_X12_waitsFor_10 : decode Y_X12_waitsFor.2.1 10 = .ok (.aload_n 0, 1) := by decide +kernel
theorem dd_X12_waitsFor_11 : decode Y_X12_waitsFor.2.1 11 = .ok (.dup, 1) := by decide +kernel
theorem dd_X12_waitsFor_12 : decode Y_X12_waitsFor.2.1 12 = .ok (.getfield 228, 3) := by decide +kernel
theorem dd_X12_waitsFor_15 : decode Y_X12_waitsFor.2.1 15 = .ok (.iconst 1, 1) := by decide +kernel
theorem dd_X12_waitsFor_16 : decode Y_X12_waitsFor.2.1 16 = .ok (.iadd, 1) := by decide +kernel
theorem dd_X12_waitsFor_17 : decode Y_X12_waitsFor.2.1 17 = .ok (.putfield 228, 3) := by decide +kernel
theorem dd_X12_waitsFor_20 : decode Y_X12_waitsFor.2.1 20 = .ok (.return_, 1) := by decide +kernel
def F_X12_waitsFor (t : Nat) (a1 : Int32) (M : zM) : zO := zck (zin (M t 34) 950) (zst (zup M (zgr t 45) (zix (M t 34)) a1) (fun M1 => zst (zup M1 t 34 ((M1 t 34) + 1)) (fun M2 => zV M2)))
set_option maxHeartbeats 1000000 in
set_option maxRecDepth 20000 in
theorem ct_X12_waitsFor (l : Launch) (hl : l.stackTraces = false) (G : zG) (t : Nat) (ht : zsh t = 12) (a1 : Int32) (M : zM) : zMt l G Y_X12_waitsFor 1 [.ref (G.2.1 + t), .int a1] M (F_X12_waitsFor t a1 M) := by
  refine zMt_of (by decide +kernel) (Nat.le_of_ble_eq_true rfl) ?_
  show zEv l G Y_X12_waitsFor 1 0 0 [(0, .ref (G.2.1 + t)), (1, .int a1)] [] M (zck (zin (M t 34) 950) (zst (zup M (zgr t 45) (zix (M t 34)) a1) (fun M1 => zst (zup M1 t 34 ((M1 t 34) + 1)) (fun M2 => zV M2))))
  refine ev_aload_n dd_X12_waitsFor_0 0 rfl ?_
  refine ev_getR gf_RX12_80 dd_X12_waitsFor_1 ht (by decide) ?_
  refine ev_aload_n dd_X12_waitsFor_4 0 rfl ?_
  refine ev_getI gf_RX12_228 dd_X12_waitsFor_5 ht (by decide) ?_
  refine ev_iload_n dd_X12_waitsFor_8 1 rfl ?_
  refine ev_lv (lv' := [(0, .ref (G.2.1 + t))]) [0] rfl ?_
  refine ev_iast dd_X12_waitsFor_9 ((zg_12_45 ht).1) ((zg_12_45 ht).2) ?_
  refine ev_st (fun M1 => ?_)
  refine ev_aload_n dd_X12_waitsFor_10 0 rfl ?_
  refine ev_lv (lv' := []) [] rfl ?_
  refine ev_dup dd_X12_waitsFor_11 rfl ?_
  refine ev_getI gf_RX12_228 dd_X12_waitsFor_12 ht (by decide) ?_
  refine ev_iconst (v := 1) dd_X12_waitsFor_15 (by decide) ?_
  refine ev_iadd dd_X12_waitsFor_16 ?_
  refine ev_putI gw_RX12_228 dd_X12_waitsFor_17 ht (by decide) ?_
  refine ev_st (fun M2 => ?_)
  exact ev_vret dd_X12_waitsFor_20 rfl (Nat.le_of_ble_eq_true rfl) rfl
/-! X12_operand -/
theorem dd_X12_operand_0 : decode Y_X12_operand.2.1 0 = .ok (.iload_n 1, 1) := by decide +kernel
theorem dd_X12_operand_1 : decode Y_X12_operand.2.1 1 = .ok (.istore_n 2, 1) := by decide +kernel
theorem dd_X12_operand_2 : decode Y_X12_operand.2.1 2 = .ok (.iconst 1, 1) := by decide +kernel
theorem dd_X12_operand_3 : decode Y_X12_operand.2.1 3 = .ok (.istore_n 3, 1) := by decide +kernel
theorem dd_X12_operand_4 : decode Y_X12_operand.2.1 4 = .ok (.iload_n 3, 1) := by decide +kernel
theorem dd_X12_operand_5 : decode Y_X12_operand.2.1 5 = .ok (.ifCond .eq 115, 3) := by decide +kernel
theorem dd_X12_operand_8 : decode Y_X12_operand.2.1 8 = .ok (.aload_n 0, 1) := by decide +kernel
theorem dd_X12_operand_9 : decode Y_X12_operand.2.1 9 = .ok (.invokevirtual 212, 3) := by decide +kernel
theorem dd_X12_operand_12 : decode Y_X12_operand.2.1 12 = .ok (.ifCond .eq 108, 3) := by decide +kernel
theorem dd_X12_operand_15 : decode Y_X12_operand.2.1 15 = .ok (.iconst 0, 1) := by decide +kernel
theorem dd_X12_operand_16 : decode Y_X12_operand.2.1 16 = .ok (.istore 4, 2) := by decide +kernel
theorem dd_X12_operand_18 : decode Y_X12_operand.2.1 18 = .ok (.aload_n 0, 1) := by decide +kernel
theorem dd_X12_operand_19 : decode Y_X12_operand.2.1 19 = .ok (.invokevirtual 212, 3) := by decide +kernel
theorem dd_X12_operand_22 : decode Y_X12_operand.2.1 22 = .ok (.ifCond .eq 53, 3) := by decide +kernel
theorem dd_X12_operand_25 : decode Y_X12_operand.2.1 25 = .ok (.iload_n 2, 1) := by decide +kernel
theorem dd_X12_operand_26 : decode Y_X12_operand.2.1 26 = .ok (.ifCond .eq 49, 3) := by decide +kernel
theorem dd_X12_operand_29 : decode Y_X12_operand.2.1 29 = .ok (.aload_n 0, 1) := by decide +kernel
theorem dd_X12_operand_30 : decode Y_X12_operand.2.1 30 = .ok (.invokevirtual 240, 3) := by decide +kernel
theorem dd_X12_operand_33 : decode Y_X12_operand.2.1 33 = .ok (.bipush 16, 2) := by decide +kernel
theorem dd_X12_operand_35 : decode Y_X12_operand.2.1 35 = .ok (.if_icmp .ne 40, 3) := by decide +kernel
theorem dd_X12_operand_38 : decode Y_X12_operand.2.1 38 = .ok (.iload 4, 2) := by decide +kernel
theorem dd_X12_operand_40 : decode Y_X12_operand.2.1 40 = .ok (.bipush 6, 2) := by decide +kernel
theorem dd_X12_operand_42 : decode Y_X12_operand.2.1 42 = .ok (.if_icmp .ne 8, 3) := by decide +kernel
theorem dd_X12_operand_45 : decode Y_X12_operand.2.1 45 = .ok (.aload_n 0, 1) := by decide +kernel
theorem dd_X12_operand_46 : decode Y_X12_operand.2.1 46 = .ok (.iconst 2, 1) := by decide +kernel
theorem dd_X12_operand_47 : decode Y_X12_operand.2.1 47 = .ok (.invokevirtual 219, 3) := by decide +kernel
theorem dd_X12_operand_50 : decode Y_X12_operand.2.1 50 = .ok (.iinc 4 1, 3) := by decide +kernel
theorem dd_X12_operand_53 : decode Y_X12_operand.2.1 53 = .ok (.aload_n 0, 1) := by decide +kernel
theorem dd_X12_operand_54 : decode Y_X12_operand.2.1 54 = .ok (.invokevirtual 212, 3) := by decide +kernel
theorem dd_X12_operand_57 : decode Y_X12_operand.2.1 57 = .ok (.ifCond .ne 6, 3) := by decide +kernel
theorem dd_X12_operand_60 : decode Y_X12_operand.2.1 60 = .ok (.goto (-42), 3) := by decide +kernel
theorem dd_X12_operand_63 : decode Y_X12_operand.2.1 63 = .ok (.aload_n 0, 1) := by decide +kernel
theorem dd_X12_operand_64 : decode Y_X12_operand.2.1 64 = .ok (.iconst 3, 1) := by decide +kernel
theorem dd_X12_operand_65 : decode Y_X12_operand.2.1 65 = .ok (.invokevirtual 250, 3) := by decide +kernel
theorem dd_X12_operand_68 : decode Y_X12_operand.2.1 68 = .ok (.aload_n 0, 1) := by decide +kernel
theorem dd_X12_operand_69 : decode Y_X12_operand.2.1 69 = .ok (.invokevirtual 216, 3) := by decide +kernel
theorem dd_X12_operand_72 : decode Y_X12_operand.2.1 72 = .ok (.goto (-54), 3) := by decide +kernel
theorem dd_X12_operand_75 : decode Y_X12_operand.2.1 75 = .ok (.aload_n 0, 1) := by decide +kernel
theorem dd_X12_operand_76 : decode Y_X12_operand.2.1 76 = .ok (.invokevirtual 212, 3) := by decide +kernel
theorem dd_X12_operand_79 : decode Y_X12_operand.2.1 79 = .ok (.ifCond .eq 16, 3) := by decide +kernel
theorem dd_X12_operand_82 : decode Y_X12_operand.2.1 82 = .ok (.aload_n 0, 1) := by decide +kernel
theorem dd_X12_operand_83 : decode Y_X12_operand.2.1 83 = .ok (.bipush 40, 2) := by decide +kernel
theorem dd_X12_operand_85 : decode Y_X12_operand.2.1 85 = .ok (.invokevirtual 247, 3) := by decide +kernel
theorem dd_X12_operand_88 : decode Y_X12_operand.2.1 88 = .ok (.ifCond .eq 7, 3) := by decide +kernel
theorem dd_X12_operand_91 : decode Y_X12_operand.2.1 91 = .ok (.iconst 1, 1) := by decide +kernel
theorem dd_X12_operand_92 : decode Y_X12_operand.2.1 92 = .ok (.goto 4, 3) := by decide +kernel
theorem dd_X12_operand_95 : decode Y_X12_operand.2.1 95 = .ok (.iconst 0, 1) := by decide +kernel
theorem dd_X12_operand_96 : decode Y_X12_operand.2.1 96 = .ok (.istore_n 3, 1) := by decide +kernel
theorem dd_X12_operand_97 : decode Y_X12_operand.2.1 97 = .ok (.iload_n 3, 1) := by decide +kernel
theorem dd_X12_operand_98 : decode Y_X12_operand.2.1 98 = .ok (.ifCond .eq 19, 3) := by decide +kernel
theorem dd_X12_operand_101 : decode Y_X12_operand.2.1 101 = .ok (.aload_n 0, 1) := by decide +kernel
theorem dd_X12_operand_102 : decode Y_X12_operand.2.1 102 = .ok (.bipush 14, 2) := by decide +kernel
theorem dd_X12_operand_104 : decode Y_X12_operand.2.1 104 = .ok (.invokevirtual 250, 3) := by decide +kernel
theorem dd_X12_operand_107 : decode Y_X12_operand.2.1 107 = .ok (.aload_n 0, 1) := by decide +kernel
theorem dd_X12_operand_108 : decode Y_X12_operand.2.1 108 = .ok (.invokevirtual 216, 3) := by decide +kernel
theorem dd_X12_operand_111 : decode Y_X12_operand.2.1 111 = .ok (.aload_n 0, 1) := by decide +kernel
theorem dd_X12_operand_112 : decode Y_X12_operand.2.1 112 = .ok (.invokevirtual 253, 3) := by decide +kernel
theorem dd_X12_operand_115 : decode Y_X12_operand.2.1 115 = .ok (.iconst 1, 1) := by decide +kernel
theorem dd_X12_operand_116 : decode Y_X12_operand.2.1 116 = .ok (.istore_n 2, 1) := by decide +kernel
theorem dd_X12_operand_117 : decode Y_X12_operand.2.1 117 = .ok (.goto (-113), 3) := by decide +kernel
theorem dd_X12_operand_120 : decode Y_X12_operand.2.1 120 = .ok (.aload_n 0, 1) := by decide +kernel
theorem dd_X12_operand_121 : decode Y_X12_operand.2.1 121 = .ok (.invokevirtual 256, 3) := by decide +kernel
theorem dd_X12_operand_124 : decode Y_X12_operand.2.1 124 = .ok (.return_, 1) := by decide +kernel
def F_X12_operand_L18 (x0 : Nat) (x2 : Int32) (K75 : zM → zO) : Nat → Int32 → zM → zO
  | 0, _, _ => none
  | n + 1, x4, M => zbI (F_X12_isGood x0 M) (fun r2 M2 => zit (r2 = 0) (K75 M2) (zit (x2 = 0) (K75 M2) (zbI (F_X12_knownWord x0 M2) (fun r3 M3 => zit (r3 = 16) (zjo (fun  (M5 : zM) => zbI (F_X12_isGood x0 M5) (fun r4 M6 => zit (r4 = 0) (F_X12_operand_L18 x0 x2 K75 n (x4 + 1) M6) (zbV (F_X12_waitsFor x0 3 M6) (fun M7 => zbV (F_X12_goes x0 M7) (fun M8 => F_X12_operand_L18 x0 x2 K75 n (x4 + 1) M8))))) (fun (k1 : zM → zO) => zit (x4 = 6) (zbV (F_X12_wrong x0 2 M3) (fun M4 => k1 M4)) (k1 M3))) (K75 M3)))))
def F_X12_operand_L4 (x0 : Nat) (K120 : zM → zO) : Nat → Int32 → Int32 → zM → zO
  | 0, _, _, _ => none
  | n + 1, x2, x3, M => zit (x3 = 0) (K120 M) (zbI (F_X12_isGood x0 M) (fun r1 M1 => zit (r1 = 0) (K120 M1) (F_X12_operand_L18 x0 x2 (fun  (M9 : zM) => zbI (F_X12_isGood x0 M9) (fun r5 M10 => zjo (fun (w1 : Int32) (M13 : zM) => zjo (fun (w2 : Int32) (M17 : zM) => F_X12_operand_L4 x0 K120 n w2 w1 M17) (fun (k4 : Int32 → zM → zO) => zit (w1 = 0) (k4 x2 M13) (zbV (F_X12_waitsFor x0 14 M13) (fun M14 => zbV (F_X12_goes x0 M14) (fun M15 => zbV (F_X12_deeper x0 M15) (fun M16 => k4 1 M16)))))) (fun (k2 : Int32 → zM → zO) => zjo (fun  (M12 : zM) => k2 0 M12) (fun (k3 : zM → zO) => zit (r5 = 0) (k3 M10) (zbI (F_X12_isSign x0 40 M10) (fun r6 M11 => zit (r6 = 0) (k3 M11) (k2 1 M11))))))) zN 0 M1)))
def F_X12_operand (t : Nat) (a1 : Int32) (M : zM) : zO := F_X12_operand_L4 t (fun  (M18 : zM) => zbV (F_X12_part t M18) (fun M19 => zV M19)) zN a1 1 M
set_option maxHeartbeats 1000000 in
set_option maxRecDepth 20000 in
theorem ct_X12_operand_L18 (l : Launch) (hl : l.stackTraces = false) (G : zG) (x0 : Nat) (hx0 : zsh x0 = 12) (x2 : Int32) (K75 : zM → zO) (hK75 : ∀  (M : zM), zEv l G Y_X12_operand 5 0 75 [(0, .ref (G.2.1 + x0)), (2, .int x2)] [] M (K75 M)) : ∀ (n : Nat) (x4 : Int32) (M : zM), zEv l G Y_X12_operand 5 0 18 [(0, .ref (G.2.1 + x0)), (2, .int x2), (4, .int x4)] [] M (F_X12_operand_L18 x0 x2 K75 n x4 M) := by
  intro n
  induction n with
  | zero => intro x4 M; exact ev_none
  | succ n ih =>
    intro x4 M
    show zEv l G Y_X12_operand 5 0 18 [(0, .ref (G.2.1 + x0)), (2, .int x2), (4, .int x4)] [] M (zbI (F_X12_isGood x0 M) (fun r2 M2 => zit (r2 = 0) (K75 M2) (zit (x2 = 0) (K75 M2) (zbI (F_X12_knownWord x0 M2) (fun r3 M3 => zit (r3 = 16) (zjo (fun  (M5 : zM) => zbI (F_X12_isGood x0 M5) (fun r4 M6 => zit (r4 = 0) (F_X12_operand_L18 x0 x2 K75 n (x4 + 1) M6) (zbV (F_X12_waitsFor x0 3 M6) (fun M7 => zbV (F_X12_goes x0 M7) (fun M8 => F_X12_operand_L18 x0 x2 K75 n (x4 + 1) M8))))) (fun (k1 : zM → zO) => zit (x4 = 6) (zbV (F_X12_wrong x0 2 M3) (fun M4 => k1 M4)) (k1 M3))) (K75 M3))))))
    refine ev_aload_n dd_X12_operand_18 0 rfl ?_
    refine ev_callVI (As := []) cl_RX12_212 (ct_X12_isGood l hl G x0 hx0 M) dd_X12_operand_19 hx0 (by decide) (Nat.le_of_ble_eq_true rfl) (Nat.le_of_ble_eq_true rfl) rfl rfl (fun r2 M2 => ?_)
    refine ev_if_eq 75 dd_X12_operand_22 (by decide) ?_ ?_
    · refine ev_lv (lv' := [(0, .ref (G.2.1 + x0)), (2, .int x2)]) [0, 1] rfl ?_
      exact hK75 _
    · refine ev_iload_n dd_X12_operand_25 1 rfl ?_
      refine ev_if_eq 75 dd_X12_operand_26 (by decide) ?_ ?_
      · refine ev_lv (lv' := [(0, .ref (G.2.1 + x0)), (2, .int x2)]) [0, 1] rfl ?_
        exact hK75 _
      · refine ev_aload_n dd_X12_operand_29 0 rfl ?_
        refine ev_callVI (As := []) cl_RX12_240 (ct_X12_knownWord l hl G x0 hx0 M2) dd_X12_operand_30 hx0 (by decide) (Nat.le_of_ble_eq_true rfl) (Nat.le_of_ble_eq_true rfl) rfl rfl (fun r3 M3 => ?_)
        refine ev_bipush (v := 16) dd_X12_operand_33 (by decide) ?_
        refine ev_icmp_ne 75 dd_X12_operand_35 (by decide) ?_ ?_
        · refine ev_lv (lv' := [(0, .ref (G.2.1 + x0)), (2, .int x2)]) [0, 1] rfl ?_
          exact hK75 _
        · refine ev_iload dd_X12_operand_38 2 rfl ?_
          refine ev_bipush (v := 6) dd_X12_operand_40 (by decide) ?_
          refine ev_jo (fun (k1 : zM → zO) => ∀  (M5 : zM), zEv l G Y_X12_operand 5 0 50 [(0, .ref (G.2.1 + x0)), (2, .int x2), (4, .int x4)] [] M5 (k1 M5)) ?_ (fun k1 hk1 => ?_)
          · intro M5
            refine ev_iinc (j := 2) (v := 1) (lv' := [(0, .ref (G.2.1 + x0)), (2, .int x2), (4, .int (x4 + 1))]) [1, 2, 0] dd_X12_operand_50 rfl (by decide) (by decide) rfl ?_
            refine ev_aload_n dd_X12_operand_53 0 rfl ?_
            refine ev_callVI (As := []) cl_RX12_212 (ct_X12_isGood l hl G x0 hx0 M5) dd_X12_operand_54 hx0 (by decide) (Nat.le_of_ble_eq_true rfl) (Nat.le_of_ble_eq_true rfl) rfl rfl (fun r4 M6 => ?_)
            refine ev_if_ne 63 dd_X12_operand_57 (by decide) ?_ ?_
            · refine ev_aload_n dd_X12_operand_63 0 rfl ?_
              refine ev_iconst (v := 3) dd_X12_operand_64 (by decide) ?_
              refine ev_callVV (As := [.int 3]) cl_RX12_250 (ct_X12_waitsFor l hl G x0 hx0 3 M6) dd_X12_operand_65 hx0 (by decide) (Nat.le_of_ble_eq_true rfl) (Nat.le_of_ble_eq_true rfl) rfl rfl (fun M7 => ?_)
              refine ev_aload_n dd_X12_operand_68 0 rfl ?_
              refine ev_callVV (As := []) cl_RX12_216 (ct_X12_goes l hl G x0 hx0 M7) dd_X12_operand_69 hx0 (by decide) (Nat.le_of_ble_eq_true rfl) (Nat.le_of_ble_eq_true rfl) rfl rfl (fun M8 => ?_)
              refine ev_goto 18 dd_X12_operand_72 (by decide) ?_
              exact ih _ _
            · refine ev_goto 18 dd_X12_operand_60 (by decide) ?_
              exact ih _ _
          · refine ev_icmp_ne 50 dd_X12_operand_42 (by decide) ?_ ?_
            · exact hk1 _
            · refine ev_aload_n dd_X12_operand_45 0 rfl ?_
              refine ev_iconst (v := 2) dd_X12_operand_46 (by decide) ?_
              refine ev_callVV (As := [.int 2]) cl_RX12_219 (ct_X12_wrong l hl G x0 hx0 2 M3) dd_X12_operand_47 hx0 (by decide) (Nat.le_of_ble_eq_true rfl) (Nat.le_of_ble_eq_true rfl) rfl rfl (fun M4 => ?_)
              exact hk1 _
set_option maxHeartbeats 1000000 in
set_option maxRecDepth 20000 in
theorem ct_X12_operand_L4 (l : Launch) (hl : l.stackTraces = false) (G : zG) (x0 : Nat) (hx0 : zsh x0 = 12) (K120 : zM → zO) (hK120 : ∀  (M : zM), zEv l G Y_X12_operand 5 0 120 [(0, .ref (G.2.1 + x0))] [] M (K120 M)) : ∀ (n : Nat) (x2 : Int32) (x3 : Int32) (M : zM), zEv l G Y_X12_operand 5 0 4 [(0, .ref (G.2.1 + x0)), (2, .int x2), (3, .int x3)] [] M (F_X12_operand_L4 x0 K120 n x2 x3 M) := by
  intro n
  induction n with
  | zero => intro x2 x3 M; exact ev_none
  | succ n ih =>
    intro x2 x3 M
    show zEv l G Y_X12_operand 5 0 4 [(0, .ref (G.2.1 + x0)), (2, .int x2), (3, .int x3)] [] M (zit (x3 = 0) (K120 M) (zbI (F_X12_isGood x0 M) (fun r1 M1 => zit (r1 = 0) (K120 M1) (F_X12_operand_L18 x0 x2 (fun  (M9 : zM) => zbI (F_X12_isGood x0 M9) (fun r5 M10 => zjo (fun (w1 : Int32) (M13 : zM) => zjo (fun (w2 : Int32) (M17 : zM) => F_X12_operand_L4 x0 K120 n w2 w1 M17) (fun (k4 : Int32 → zM → zO) => zit (w1 = 0) (k4 x2 M13) (zbV (F_X12_waitsFor x0 14 M13) (fun M14 => zbV (F_X12_goes x0 M14) (fun M15 => zbV (F_X12_deeper x0 M15) (fun M16 => k4 1 M16)))))) (fun (k2 : Int32 → zM → zO) => zjo (fun  (M12 : zM) => k2 0 M12) (fun (k3 : zM → zO) => zit (r5 = 0) (k3 M10) (zbI (F_X12_isSign x0 40 M10) (fun r6 M11 => zit (r6 = 0) (k3 M11) (k2 1 M11))))))) zN 0 M1))))
    refine ev_iload_n dd_X12_operand_4 2 rfl ?_
    refine ev_lv (lv' := [(0, .ref (G.2.1 + x0)), (2, .int x2)]) [0, 1] rfl ?_
    refine ev_if_eq 120 dd_X12_operand_5 (by decide) ?_ ?_
    · refine ev_lv (lv' := [(0, .ref (G.2.1 + x0))]) [0] rfl ?_
      exact hK120 _
    · refine ev_aload_n dd_X12_operand_8 0 rfl ?_
      refine ev_callVI (As := []) cl_RX12_212 (ct_X12_isGood l hl G x0 hx0 M) dd_X12_operand_9 hx0 (by decide) (Nat.le_of_ble_eq_true rfl) (Nat.le_of_ble_eq_true rfl) rfl rfl (fun r1 M1 => ?_)
      refine ev_if_eq 120 dd_X12_operand_12 (by decide) ?_ ?_
      · refine ev_lv (lv' := [(0, .ref (G.2.1 + x0))]) [0] rfl ?_
        exact hK120 _
      · refine ev_iconst (v := 0) dd_X12_operand_15 (by decide) ?_
        refine ev_istore (i := 4) (lv' := [(0, .ref (G.2.1 + x0)), (2, .int x2), (4, .int 0)]) [1, 2, 0] dd_X12_operand_16 (by decide) rfl ?_
        refine ct_X12_operand_L18 l hl G x0 hx0 x2 _ (fun M9 => ?_) zN _ _
        refine ev_aload_n dd_X12_operand_75 0 rfl ?_
        refine ev_callVI (As := []) cl_RX12_212 (ct_X12_isGood l hl G x0 hx0 M9) dd_X12_operand_76 hx0 (by decide) (Nat.le_of_ble_eq_true rfl) (Nat.le_of_ble_eq_true rfl) rfl rfl (fun r5 M10 => ?_)
        refine ev_jo (fun (k2 : Int32 → zM → zO) => ∀ (w1 : Int32) (M13 : zM), zEv l G Y_X12_operand 5 0 96 [(0, .ref (G.2.1 + x0)), (2, .int x2)] [.int w1] M13 (k2 w1 M13)) ?_ (fun k2 hk2 => ?_)
        · intro w1 M13
          refine ev_istore_n (i := 3) (lv' := [(0, .ref (G.2.1 + x0)), (2, .int x2), (3, .int w1)]) [1, 2, 0] dd_X12_operand_96 rfl (by decide) rfl ?_
          refine ev_iload_n dd_X12_operand_97 2 rfl ?_
          refine ev_jo (fun (k4 : Int32 → zM → zO) => ∀ (w2 : Int32) (M17 : zM), zEv l G Y_X12_operand 5 0 117 [(0, .ref (G.2.1 + x0)), (2, .int w2), (3, .int w1)] [] M17 (k4 w2 M17)) ?_ (fun k4 hk4 => ?_)
          · intro w2 M17
            refine ev_goto 4 dd_X12_operand_117 (by decide) ?_
            exact ih _ _ _
          · refine ev_if_eq 117 dd_X12_operand_98 (by decide) ?_ ?_
            · exact hk4 _ _
            · refine ev_lv (lv' := [(0, .ref (G.2.1 + x0)), (3, .int w1)]) [0, 2] rfl ?_
              refine ev_aload_n dd_X12_operand_101 0 rfl ?_
              refine ev_bipush (v := 14) dd_X12_operand_102 (by decide) ?_
              refine ev_callVV (As := [.int 14]) cl_RX12_250 (ct_X12_waitsFor l hl G x0 hx0 14 M13) dd_X12_operand_104 hx0 (by decide) (Nat.le_of_ble_eq_true rfl) (Nat.le_of_ble_eq_true rfl) rfl rfl (fun M14 => ?_)
              refine ev_aload_n dd_X12_operand_107 0 rfl ?_
              refine ev_callVV (As := []) cl_RX12_216 (ct_X12_goes l hl G x0 hx0 M14) dd_X12_operand_108 hx0 (by decide) (Nat.le_of_ble_eq_true rfl) (Nat.le_of_ble_eq_true rfl) rfl rfl (fun M15 => ?_)
              refine ev_aload_n dd_X12_operand_111 0 rfl ?_
              refine ev_callVV (As := []) cl_RX12_253 (ct_X12_deeper l hl G x0 hx0 M15) dd_X12_operand_112 hx0 (by decide) (Nat.le_of_ble_eq_true rfl) (Nat.le_of_ble_eq_true rfl) rfl rfl (fun M16 => ?_)
              refine ev_iconst (v := 1) dd_X12_operand_115 (by decide) ?_
              refine ev_istore_n (i := 2) (lv' := [(0, .ref (G.2.1 + x0)), (2, .int 1), (3, .int w1)]) [1, 0, 2] dd_X12_operand_116 rfl (by decide) rfl ?_
              exact hk4 _ _
        · refine ev_jo (fun (k3 : zM → zO) => ∀  (M12 : zM), zEv l G Y_X12_operand 5 0 95 [(0, .ref (G.2.1 + x0)), (2, .int x2)] [] M12 (k3 M12)) ?_ (fun k3 hk3 => ?_)
          · intro M12
            refine ev_iconst (v := 0) dd_X12_operand_95 (by decide) ?_
            exact hk2 _ _
          · refine ev_if_eq 95 dd_X12_operand_79 (by decide) ?_ ?_
            · exact hk3 _
            · refine ev_aload_n dd_X12_operand_82 0 rfl ?_
              refine ev_bipush (v := 40) dd_X12_operand_83 (by decide) ?_
              refine ev_callVI (As := [.int 40]) cl_RX12_247 (ct_X12_isSign l hl G x0 hx0 40 M10) dd_X12_operand_85 hx0 (by decide) (Nat.le_of_ble_eq_true rfl) (Nat.le_of_ble_eq_true rfl) rfl rfl (fun r6 M11 => ?_)
              refine ev_if_eq 95 dd_X12_operand_88 (by decide) ?_ ?_
              · exact hk3 _
              · refine ev_iconst (v := 1) dd_X12_operand_91 (by decide) ?_
                refine ev_goto 96 dd_X12_operand_92 (by decide) ?_
                exact hk2 _ _
set_option maxHeartbeats 1000000 in
set_option maxRecDepth 20000 in
theorem ct_X12_operand (l : Launch) (hl : l.stackTraces = false) (G : zG) (t : Nat) (ht : zsh t = 12) (a1 : Int32) (M : zM) : zMt l G Y_X12_operand 5 [.ref (G.2.1 + t), .int a1] M (F_X12_operand t a1 M) := by
  refine zMt_of (by decide +kernel) (Nat.le_of_ble_eq_true rfl) ?_
  show zEv l G Y_X12_operand 5 0 0 [(0, .ref (G.2.1 + t)), (1, .int a1)] [] M (F_X12_operand_L4 t (fun  (M18 : zM) => zbV (F_X12_part t M18) (fun M19 => zV M19)) zN a1 1 M)
  refine ev_iload_n dd_X12_operand_0 1 rfl ?_
  refine ev_lv (lv' := [(0, .ref (G.2.1 + t))]) [0] rfl ?_
  refine ev_istore_n (i := 2) (lv' := [(0, .ref (G.2.1 + t)), (2, .int a1)]) [1, 0] dd_X12_operand_1 rfl (by decide) rfl ?_
  refine ev_iconst (v := 1) dd_X12_operand_2 (by decide) ?_
  refine ev_istore_n (i := 3) (lv' := [(0, .ref (G.2.1 + t)), (2, .int a1), (3, .int 1)]) [1, 2, 0] dd_X12_operand_3 rfl (by decide) rfl ?_
  refine ct_X12_operand_L4 l hl G t ht _ (fun M18 => ?_) zN _ _ _
  refine ev_aload_n dd_X12_operand_120 0 rfl ?_
  refine ev_lv (lv' := []) [] rfl ?_
  refine ev_callVV (As := []) cl_RX12_256 (ct_X12_part l hl G t ht M18) dd_X12_operand_121 ht (by decide) (Nat.le_of_ble_eq_true rfl) (Nat.le_of_ble_eq_true rfl) rfl rfl (fun M19 => ?_)
  exact ev_vret dd_X12_operand_124 rfl (Nat.le_of_ble_eq_true rfl) rfl
/-! X12_expression -/
theorem dd_X12_expression_0 : decode Y_X12_expression.2.1 0 = .ok (.aload_n 0, 1) := by decide +kernel
theorem dd_X12_expression_1 : decode Y_X12_expression.2.1 1 = .ok (.invokevirtual 212, 3) := by decide +kernel
theorem dd_X12_expression_4 : decode Y_X12_expression.2.1 4 = .ok (.ifCond .ne 4, 3) := by decide +kernel
theorem dd_X12_expression_7 : decode Y_X12_expression.2.1 7 = .ok (.return_, 1) := by decide +kernel
theorem dd_X12_expression_8 : decode Y_X12_expression.2.1 8 = .ok (.aload_n 0, 1) := by decide +kernel
theorem dd_X12_expression_9 : decode Y_X12_expression.2.1 9 = .ok (.iconst 0, 1) := by decide +kernel
theorem dd_X12_expression_10 : decode Y_X12_expression.2.1 10 = .ok (.putfield 228, 3) := by decide +kernel
theorem dd_X12_expression_13 : decode Y_X12_expression.2.1 13 = .ok (.aload_n 0, 1) := by decide +kernel
theorem dd_X12_expression_14 : decode Y_X12_expression.2.1 14 = .ok (.iconst 0, 1) := by decide +kernel
theorem dd_X12_expression_15 : decode Y_X12_expression.2.1 15 = .ok (.putfield 244, 3) := by decide +kernel
theorem dd_X12_expression_18 : decode Y_X12_expression.2.1 18 = .ok (.aload_n 0, 1) := by decide +kernel
theorem dd_X12_expression_19 : decode Y_X12_expression.2.1 19 = .ok (.invokevirtual 253, 3) := by decide +kernel
theorem dd_X12_expression_22 : decode Y_X12_expression.2.1 22 = .ok (.aload_n 0, 1) := by decide +kernel
theorem dd_X12_expression_23 : decode Y_X12_expression.2.1 23 = .ok (.iconst 1, 1) := by decide +kernel
theorem dd_X12_expression_24 : decode Y_X12_expression.2.1 24 = .ok (.invokevirtual 262, 3) := by decide +kernel
theorem dd_X12_expression_27 : decode Y_X12_expression.2.1 27 = .ok (.iconst 1, 1) := by decide +kernel
theorem dd_X12_expression_28 : decode Y_X12_expression.2.1 28 = .ok (.istore_n 1, 1) := by decide +kernel
theorem dd_X12_expression_29 : decode Y_X12_expression.2.1 29 = .ok (.iload_n 1, 1) := by decide +kernel
theorem dd_X12_expression_30 : decode Y_X12_expression.2.1 30 = .ok (.ifCond .eq 295, 3) := by decide +kernel
theorem dd_X12_expression_33 : decode Y_X12_expression.2.1 33 = .ok (.aload_n 0, 1) := by decide +kernel
theorem dd_X12_expression_34 : decode Y_X12_expression.2.1 34 = .ok (.invokevirtual 212, 3) := by decide +kernel
theorem dd_X12_expression_37 : decode Y_X12_expression.2.1 37 = .ok (.ifCond .eq 288, 3) := by decide +kernel
theorem dd_X12_expression_40 : decode Y_X12_expression.2.1 40 = .ok (.aload_n 0, 1) := by decide +kernel
theorem dd_X12_expression_41 : decode Y_X12_expression.2.1 41 = .ok (.invokevirtual 240, 3) := by decide +kernel
theorem dd_X12_expression_44 : decode Y_X12_expression.2.1 44 = .ok (.istore_n 2, 1) := by decide +kernel
theorem dd_X12_expression_45 : decode Y_X12_expression.2.1 45 = .ok (.iload_n 2, 1) := by decide +kernel
theorem dd_X12_expression_46 : decode Y_X12_expression.2.1 46 = .ok (.bipush 14, 2) := by decide +kernel
theorem dd_X12_expression_48 : decode Y_X12_expression.2.1 48 = .ok (.if_icmp .eq 9, 3) := by decide +kernel
theorem dd_X12_expression_51 : decode Y_X12_expression.2.1 51 = .ok (.iload_n 2, 1) := by decide +kernel
theorem dd_X12_expression_52 : decode Y_X12_expression.2.1 52 = .ok (.bipush 15, 2) := by decide +kernel
theorem dd_X12_expression_54 : decode Y_X12_expression.2.1 54 = .ok (.if_icmp .ne 55, 3) := by decide +kernel
theorem dd_X12_expression_57 : decode Y_X12_expression.2.1 57 = .ok (.aload_n 0, 1) := by decide +kernel
theorem dd_X12_expression_58 : decode Y_X12_expression.2.1 58 = .ok (.iload_n 2, 1) := by decide +kernel
theorem dd_X12_expression_59 : decode Y_X12_expression.2.1 59 = .ok (.bipush 14, 2) := by decide +kernel
theorem dd_X12_expression_61 : decode Y_X12_expression.2.1 61 = .ok (.if_icmp .ne 7, 3) := by decide +kernel
theorem dd_X12_expression_64 : decode Y_X12_expression.2.1 64 = .ok (.iconst 2, 1) := by decide +kernel
theorem dd_X12_expression_65 : decode Y_X12_expression.2.1 65 = .ok (.goto 4, 3) := by decide +kernel
theorem dd_X12_expression_68 : decode Y_X12_expression.2.1 68 = .ok (.iconst 1, 1) := by decide +kernel
theorem dd_X12_expression_69 : decode Y_X12_expression.2.1 69 = .ok (.invokevirtual 259, 3) := by decide +kernel
theorem dd_X12_expression_72 : decode Y_X12_expression.2.1 72 = .ok (.aload_n 0, 1) := by decide +kernel
theorem dd_X12_expression_73 : decode Y_X12_expression.2.1 73 = .ok (.iload_n 2, 1) := by decide +kernel
theorem dd_X12_expression_74 : decode Y_X12_expression.2.1 74 = .ok (.bipush 14, 2) := by decide +kernel
theorem dd_X12_expression_76 : decode Y_X12_expression.2.1 76 = .ok (.if_icmp .ne 7, 3) := by decide +kernel
theorem dd_X12_expression_79 : decode Y_X12_expression.2.1 79 = .ok (.iconst 4, 1) := by decide +kernel
theorem dd_X12_expression_80 : decode Y_X12_expression.2.1 80 = .ok (.goto 4, 3) := by decide +kernel
theorem dd_X12_expression_83 : decode Y_X12_expression.2.1 83 = .ok (.iconst 5, 1) := by decide +kernel
theorem dd_X12_expression_84 : decode Y_X12_expression.2.1 84 = .ok (.invokevirtual 250, 3) := by decide +kernel
theorem dd_X12_expression_87 : decode Y_X12_expression.2.1 87 = .ok (.aload_n 0, 1) := by decide +kernel
theorem dd_X12_expression_88 : decode Y_X12_expression.2.1 88 = .ok (.getfield 83, 3) := by decide +kernel
theorem dd_X12_expression_91 : decode Y_X12_expression.2.1 91 = .ok (.aload_n 0, 1) := by decide +kernel
theorem dd_X12_expression_92 : decode Y_X12_expression.2.1 92 = .ok (.getfield 244, 3) := by decide +kernel
theorem dd_X12_expression_95 : decode Y_X12_expression.2.1 95 = .ok (.iconst 0, 1) := by decide +kernel
theorem dd_X12_expression_96 : decode Y_X12_expression.2.1 96 = .ok (.bastore, 1) := by decide +kernel
theorem dd_X12_expression_97 : decode Y_X12_expression.2.1 97 = .ok (.aload_n 0, 1) := by decide +kernel
theorem dd_X12_expression_98 : decode Y_X12_expression.2.1 98 = .ok (.invokevirtual 216, 3) := by decide +kernel
theorem dd_X12_expression_101 : decode Y_X12_expression.2.1 101 = .ok (.aload_n 0, 1) := by decide +kernel
theorem dd_X12_expression_102 : decode Y_X12_expression.2.1 102 = .ok (.iconst 1, 1) := by decide +kernel
theorem dd_X12_expression_103 : decode Y_X12_expression.2.1 103 = .ok (.invokevirtual 262, 3) := by decide +kernel
theorem dd_X12_expression_106 : decode Y_X12_expression.2.1 106 = .ok (.goto 216, 3) := by decide +kernel
theorem dd_X12_expression_109 : decode Y_X12_expression.2.1 109 = .ok (.aload_n 0, 1) := by decide +kernel
theorem dd_X12_expression_110 : decode Y_X12_expression.2.1 110 = .ok (.bipush 60, 2) := by decide +kernel
theorem dd_X12_expression_112 : decode Y_X12_expression.2.1 112 = .ok (.invokevirtual 247, 3) := by decide +kernel
theorem dd_X12_expression_115 : decode Y_X12_expression.2.1 115 = .ok (.ifCond .ne 12, 3) := by decide +kernel
theorem dd_X12_expression_118 : decode Y_X12_expression.2.1 118 = .ok (.aload_n 0, 1) := by decide +kernel
theorem dd_X12_expression_119 : decode Y_X12_expression.2.1 119 = .ok (.bipush 61, 2) := by decide +kernel
theorem dd_X12_expression_121 : decode Y_X12_expression.2.1 121 = .ok (.invokevirtual 247, 3) := by decide +kernel
theorem dd_X12_expression_124 : decode Y_X12_expression.2.1 124 = .ok (.ifCond .eq 62, 3) := by decide +kernel
theorem dd_X12_expression_127 : decode Y_X12_expression.2.1 127 = .ok (.aload_n 0, 1) := by decide +kernel
theorem dd_X12_expression_128 : decode Y_X12_expression.2.1 128 = .ok (.getfield 83, 3) := by decide +kernel
theorem dd_X12_expression_131 : decode Y_X12_expression.2.1 131 = .ok (.aload_n 0, 1) := by decide +kernel
theorem dd_X12_expression_132 : decode Y_X12_expression.2.1 132 = .ok (.getfield 244, 3) := by decide +kernel
theorem dd_X12_expression_135 : decode Y_X12_expression.2.1 135 = .ok (.baload, 1) := by decide +kernel
theorem dd_X12_expression_136 : decode Y_X12_expression.2.1 136 = .ok (.ifCond .ne 50, 3) := by decide +kernel
theorem dd_X12_expression_139 : decode Y_X12_expression.2.1 139 = .ok (.aload_n 0, 1) := by decide +kernel
theorem dd_X12_expression_140 : decode Y_X12_expression.2.1 140 = .ok (.iconst 4, 1) := by decide +kernel
theorem dd_X12_expression_141 : decode Y_X12_expression.2.1 141 = .ok (.invokevirtual 259, 3) := by decide +kernel
theorem dd_X12_expression_144 : decode Y_X12_expression.2.1 144 = .ok (.aload_n 0, 1) := by decide +kernel
theorem dd_X12_expression_145 : decode Y_X12_expression.2.1 145 = .ok (.aload_n 0, 1) := by decide +kernel
theorem dd_X12_expression_146 : decode Y_X12_expression.2.1 146 = .ok (.bipush 60, 2) := by decide +kernel
theorem dd_X12_expression_148 : decode Y_X12_expression.2.1 148 = .ok (.invokevirtual 247, 3) := by decide +kernel
theorem dd_X12_expression_151 : decode Y_X12_expression.2.1 151 = .ok (.ifCond .eq 8, 3) := by decide +kernel
theorem dd_X12_expression_154 : decode Y_X12_expression.2.1 154 = .ok (.bipush 6, 2) := by decide +kernel
theorem dd_X12_expression_156 : decode Y_X12_expression.2.1 156 = .ok (.goto 5, 3) := by decide +kernel
theorem dd_X12_expression_159 : decode Y_X12_expression.2.1 159 = .ok (.bipush 7, 2) := by decide +kernel
theorem dd_X12_expression_161 : decode Y_X12_expression.2.1 161 = .ok (.invokevirtual 250, 3) := by decide +kernel
theorem dd_X12_expression_164 : decode Y_X12_expression.2.1 164 = .ok (.aload_n 0, 1) := by decide +kernel
theorem dd_X12_expression_165 : decode Y_X12_expression.2.1 165 = .ok (.getfield 83, 3) := by decide +kernel
theorem dd_X12_expression_168 : decode Y_X12_expression.2.1 168 = .ok (.aload_n 0, 1) := by decide +kernel
theorem dd_X12_expression_169 : decode Y_X12_expression.2.1 169 = .ok (.getfield 244, 3) := by decide +kernel
theorem dd_X12_expression_172 : decode Y_X12_expression.2.1 172 = .ok (.iconst 1, 1) := by decide +kernel
theorem dd_X12_expression_173 : decode Y_X12_expression.2.1 173 = .ok (.bastore, 1) := by decide +kernel
theorem dd_X12_expression_174 : decode Y_X12_expression.2.1 174 = .ok (.aload_n 0, 1) := by decide +kernel
theorem dd_X12_expression_175 : decode Y_X12_expression.2.1 175 = .ok (.invokevirtual 216, 3) := by decide +kernel
theorem dd_X12_expression_178 : decode Y_X12_expression.2.1 178 = .ok (.aload_n 0, 1) := by decide +kernel
theorem dd_X12_expression_179 : decode Y_X12_expression.2.1 179 = .ok (.iconst 0, 1) := by decide +kernel
theorem dd_X12_expression_180 : decode Y_X12_expression.2.1 180 = .ok (.invokevirtual 262, 3) := by decide +kernel
theorem dd_X12_expression_183 : decode Y_X12_expression.2.1 183 = .ok (.goto 139, 3) := by decide +kernel
theorem dd_X12_expression_186 : decode Y_X12_expression.2.1 186 = .ok (.aload_n 0, 1) := by decide +kernel
theorem dd_X12_expression_187 : decode Y_X12_expression.2.1 187 = .ok (.bipush 43, 2) := by decide +kernel
theorem dd_X12_expression_189 : decode Y_X12_expression.2.1 189 = .ok (.invokevirtual 247, 3) := by decide +kernel
theorem dd_X12_expression_192 : decode Y_X12_expression.2.1 192 = .ok (.ifCond .ne 12, 3) := by decide +kernel
theorem dd_X12_expression_195 : decode Y_X12_expression.2.1 195 = .ok (.aload_n 0, 1) := by decide +kernel
theorem dd_X12_expression_196 : decode Y_X12_expression.2.1 196 = .ok (.bipush 45, 2) := by decide +kernel
theorem dd_X12_expression_198 : decode Y_X12_expression.2.1 198 = .ok (.invokevirtual 247, 3) := by decide +kernel
theorem dd_X12_expression_201 : decode Y_X12_expression.2.1 201 = .ok (.ifCond .eq 40, 3) := by decide +kernel
theorem dd_X12_expression_204 : decode Y_X12_expression.2.1 204 = .ok (.aload_n 0, 1) := by decide +kernel
theorem dd_X12_expression_205 : decode Y_X12_expression.2.1 205 = .ok (.iconst 5, 1) := by decide +kernel
theorem dd_X12_expression_206 : decode Y_X12_expression.2.1 206 = .ok (.invokevirtual 259, 3) := by decide +kernel
theorem dd_X12_expression_209 : decode Y_X12_expression.2.1 209 = .ok (.aload_n 0, 1) := by decide +kernel
theorem dd_X12_expression_210 : decode Y_X12_expression.2.1 210 = .ok (.aload_n 0, 1) := by decide +kernel
theorem dd_X12_expression_211 : decode Y_X12_expression.2.1 211 = .ok (.bipush 43, 2) := by decide +kernel
theorem dd_X12_expression_213 : decode Y_X12_expression.2.1 213 = .ok (.invokevirtual 247, 3) := by decide +kernel
theorem dd_X12_expression_216 : decode Y_X12_expression.2.1 216 = .ok (.ifCond .eq 8, 3) := by decide +kernel
theorem dd_X12_expression_219 : decode Y_X12_expression.2.1 219 = .ok (.bipush 8, 2) := by decide +kernel
theorem dd_X12_expression_221 : decode Y_X12_expression.2.1 221 = .ok (.goto 5, 3) := by decide +kernel
theorem dd_X12_expression_224 : decode Y_X12_expression.2.1 224 = .ok (.bipush 9, 2) := by decide +kernel
theorem dd_X12_expression_226 : decode Y_X12_expression.2.1 226 = .ok (.invokevirtual 250, 3) := by decide +kernel
theorem dd_X12_expression_229 : decode Y_X12_expression.2.1 229 = .ok (.aload_n 0, 1) := by decide +kernel
theorem dd_X12_expression_230 : decode Y_X12_expression.2.1 230 = .ok (.invokevirtual 216, 3) := by decide +kernel
theorem dd_X12_expression_233 : decode Y_X12_expression.2.1 233 = .ok (.aload_n 0, 1) := by decide +kernel
theorem dd_X12_expression_234 : decode Y_X12_expression.2.1 234 = .ok (.iconst 0, 1) := by decide +kernel
theorem dd_X12_expression_235 : decode Y_X12_expression.2.1 235 = .ok (.invokevirtual 262, 3) := by decide +kernel
theorem dd_X12_expression_238 : decode Y_X12_expression.2.1 238 = .ok (.goto 84, 3) := by decide +kernel
theorem dd_X12_expression_241 : decode Y_X12_expression.2.1 241 = .ok (.aload_n 0, 1) := by decide +kernel
theorem dd_X12_expression_242 : decode Y_X12_expression.2.1 242 = .ok (.bipush 42, 2) := by decide +kernel
theorem dd_X12_expression_244 : decode Y_X12_expression.2.1 244 = .ok (.invokevirtual 247, 3) := by decide +kernel
theorem dd_X12_expression_247 : decode Y_X12_expression.2.1 247 = .ok (.ifCond .ne 12, 3) := by decide +kernel
theorem dd_X12_expression_250 : decode Y_X12_expression.2.1 250 = .ok (.aload_n 0, 1) := by decide +kernel
theorem dd_X12_expression_251 : decode Y_X12_expression.2.1 251 = .ok (.bipush 47, 2) := by decide +kernel
theorem dd_X12_expression_253 : decode Y_X12_expression.2.1 253 = .ok (.invokevirtual 247, 3) := by decide +kernel
theorem dd_X12_expression_256 : decode Y_X12_expression.2.1 256 = .ok (.ifCond .eq 41, 3) := by decide +kernel
theorem dd_X12_expression_259 : decode Y_X12_expression.2.1 259 = .ok (.aload_n 0, 1) := by decide +kernel
theorem dd_X12_expression_260 : decode Y_X12_expression.2.1 260 = .ok (.bipush 6, 2) := by decide +kernel
theorem dd_X12_expression_262 : decode Y_X12_expression.2.1 262 = .ok (.invokevirtual 259, 3) := by decide +kernel
theorem dd_X12_expression_265 : decode Y_X12_expression.2.1 265 = .ok (.aload_n 0, 1) := by decide +kernel
theorem dd_X12_expression_266 : decode Y_X12_expression.2.1 266 = .ok (.aload_n 0, 1) := by decide +kernel
theorem dd_X12_expression_267 : decode Y_X12_expression.2.1 267 = .ok (.bipush 42, 2) := by decide +kernel
theorem dd_X12_expression_269 : decode Y_X12_expression.2.1 269 = .ok (.invokevirtual 247, 3) := by decide +kernel
theorem dd_X12_expression_272 : decode Y_X12_expression.2.1 272 = .ok (.ifCond .eq 8, 3) := by decide +kernel
theorem dd_X12_expression_275 : decode Y_X12_expression.2.1 275 = .ok (.bipush 10, 2) := by decide +kernel
theorem dd_X12_expression_277 : decode Y_X12_expression.2.1 277 = .ok (.goto 5, 3) := by decide +kernel
theorem dd_X12_expression_280 : decode Y_X12_expression.2.1 280 = .ok (.bipush 11, 2) := by decide +kernel
theorem dd_X12_expression_282 : decode Y_X12_expression.2.1 282 = .ok (.invokevirtual 250, 3) := by decide +kernel
theorem dd_X12_expression_285 : decode Y_X12_expression.2.1 285 = .ok (.aload_n 0, 1) := by decide +kernel
theorem dd_X12_expression_286 : decode Y_X12_expression.2.1 286 = .ok (.invokevirtual 216, 3) := by decide +kernel
theorem dd_X12_expression_289 : decode Y_X12_expression.2.1 289 = .ok (.aload_n 0, 1) := by decide +kernel
theorem dd_X12_expression_290 : decode Y_X12_expression.2.1 290 = .ok (.iconst 0, 1) := by decide +kernel
theorem dd_X12_expression_291 : decode Y_X12_expression.2.1 291 = .ok (.invokevirtual 262, 3) := by decide +kernel
theorem dd_X12_expression_294 : decode Y_X12_expression.2.1 294 = .ok (.goto 28, 3) := by decide +kernel
theorem dd_X12_expression_297 : decode Y_X12_expression.2.1 297 = .ok (.aload_n 0, 1) := by decide +kernel
theorem dd_X12_expression_298 : decode Y_X12_expression.2.1 298 = .ok (.bipush 41, 2) := by decide +kernel
theorem dd_X12_expression_300 : decode Y_X12_expression.2.1 300 = .ok (.invokevirtual 247, 3) := by decide +kernel
theorem dd_X12_expression_303 : decode Y_X12_expression.2.1 303 = .ok (.ifCond .eq 17, 3) := by decide +kernel
theorem dd_X12_expression_306 : decode Y_X12_expression.2.1 306 = .ok (.aload_n 0, 1) := by decide +kernel
theorem dd_X12_expression_307 : decode Y_X12_expression.2.1 307 = .ok (.invokevirtual 266, 3) := by decide +kernel
theorem dd_X12_expression_310 : decode Y_X12_expression.2.1 310 = .ok (.ifCond .eq 10, 3) := by decide +kernel
theorem dd_X12_expression_313 : decode Y_X12_expression.2.1 313 = .ok (.aload_n 0, 1) := by decide +kernel
theorem dd_X12_expression_314 : decode Y_X12_expression.2.1 314 = .ok (.invokevirtual 269, 3) := by decide +kernel
theorem dd_X12_expression_317 : decode Y_X12_expression.2.1 317 = .ok (.goto 5, 3) := by decide +kernel
theorem dd_X12_expression_320 : decode Y_X12_expression.2.1 320 = .ok (.iconst 0, 1) := by decide +kernel
theorem dd_X12_expression_321 : decode Y_X12_expression.2.1 321 = .ok (.istore_n 1, 1) := by decide +kernel
theorem dd_X12_expression_322 : decode Y_X12_expression.2.1 322 = .ok (.goto (-293), 3) := by decide +kernel
theorem dd_X12_expression_325 : decode Y_X12_expression.2.1 325 = .ok (.aload_n 0, 1) := by decide +kernel
theorem dd_X12_expression_326 : decode Y_X12_expression.2.1 326 = .ok (.invokevirtual 212, 3) := by decide +kernel
theorem dd_X12_expression_329 : decode Y_X12_expression.2.1 329 = .ok (.ifCond .eq 16, 3) := by decide +kernel
theorem dd_X12_expression_332 : decode Y_X12_expression.2.1 332 = .ok (.aload_n 0, 1) := by decide +kernel
theorem dd_X12_expression_333 : decode Y_X12_expression.2.1 333 = .ok (.getfield 244, 3) := by decide +kernel
theorem dd_X12_expression_336 : decode Y_X12_expression.2.1 336 = .ok (.iconst 1, 1) := by decide +kernel
theorem dd_X12_expression_337 : decode Y_X12_expression.2.1 337 = .ok (.if_icmp .le 8, 3) := by decide +kernel
theorem dd_X12_expression_340 : decode Y_X12_expression.2.1 340 = .ok (.aload_n 0, 1) := by decide +kernel
theorem dd_X12_expression_341 : decode Y_X12_expression.2.1 341 = .ok (.iconst 1, 1) := by decide +kernel
theorem dd_X12_expression_342 : decode Y_X12_expression.2.1 342 = .ok (.invokevirtual 219, 3) := by decide +kernel
theorem dd_X12_expression_345 : decode Y_X12_expression.2.1 345 = .ok (.aload_n 0, 1) := by decide +kernel
theorem dd_X12_expression_346 : decode Y_X12_expression.2.1 346 = .ok (.iconst 0, 1) := by decide +kernel
theorem dd_X12_expression_347 : decode Y_X12_expression.2.1 347 = .ok (.invokevirtual 259, 3) := by decide +kernel
theorem dd_X12_expression_350 : decode Y_X12_expression.2.1 350 = .ok (.aload_n 0, 1) := by decide +kernel
theorem dd_X12_expression_351 : decode Y_X12_expression.2.1 351 = .ok (.iconst 0, 1) := by decide +kernel
theorem dd_X12_expression_352 : decode Y_X12_expression.2.1 352 = .ok (.invokevirtual 237, 3) := by decide +kernel
theorem dd_X12_expression_355 : decode Y_X12_expression.2.1 355 = .ok (.return_, 1) := by decide +kernel
def F_X12_expression_L29 (x0 : Nat) (K325 : zM → zO) : Nat → Int32 → zM → zO
  | 0, _, _ => none
  | n + 1, x1, M => zit (x1 = 0) (K325 M) (zbI (F_X12_isGood x0 M) (fun r2 M6 => zit (r2 = 0) (K325 M6) (zbI (F_X12_knownWord x0 M6) (fun r3 M7 => zjo (fun (w6 : Int32) (M49 : zM) => F_X12_expression_L29 x0 K325 n w6 M49) (fun (k1 : Int32 → zM → zO) => zjo (fun  (M41 : zM) => zjo (fun (w4 : Int32) (M42 : zM) => zbV (F_X12_drops x0 w4 M42) (fun M43 => zjo (fun (w5 : Int32) (M44 : zM) => zbV (F_X12_waitsFor x0 w5 M44) (fun M45 => zck (zin (M45 x0 35) 9 && zbo 0) (zst (zup M45 (zgr x0 46) (zix (M45 x0 35)) 0) (fun M46 => zbV (F_X12_goes x0 M46) (fun M47 => zbV (F_X12_operand x0 1 M47) (fun M48 => k1 x1 M48)))))) (fun (k12 : Int32 → zM → zO) => zit (r3 = 14) (k12 4 M43) (k12 5 M43)))) (fun (k11 : Int32 → zM → zO) => zit (r3 = 14) (k11 2 M41) (k11 1 M41))) (fun (k2 : zM → zO) => zit (r3 = 14) (k2 M7) (zit (r3 = 15) (k2 M7) (zbI (F_X12_isSign x0 60 M7) (fun r4 M8 => zjo (fun  (M18 : zM) => zbI (F_X12_isSign x0 43 M18) (fun r7 M19 => zjo (fun  (M34 : zM) => zbV (F_X12_drops x0 5 M34) (fun M35 => zbI (F_X12_isSign x0 43 M35) (fun r14 M36 => zjo (fun (w3 : Int32) (M37 : zM) => zbV (F_X12_waitsFor x0 w3 M37) (fun M38 => zbV (F_X12_goes x0 M38) (fun M39 => zbV (F_X12_operand x0 0 M39) (fun M40 => k1 x1 M40)))) (fun (k10 : Int32 → zM → zO) => zit (r14 = 0) (k10 9 M36) (k10 8 M36))))) (fun (k6 : zM → zO) => zit (r7 = 0) (zbI (F_X12_isSign x0 45 M19) (fun r8 M20 => zit (r8 = 0) (zbI (F_X12_isSign x0 42 M20) (fun r9 M21 => zjo (fun  (M27 : zM) => zbV (F_X12_drops x0 6 M27) (fun M28 => zbI (F_X12_isSign x0 42 M28) (fun r13 M29 => zjo (fun (w2 : Int32) (M30 : zM) => zbV (F_X12_waitsFor x0 w2 M30) (fun M31 => zbV (F_X12_goes x0 M31) (fun M32 => zbV (F_X12_operand x0 0 M32) (fun M33 => k1 x1 M33)))) (fun (k9 : Int32 → zM → zO) => zit (r13 = 0) (k9 11 M29) (k9 10 M29))))) (fun (k7 : zM → zO) => zit (r9 = 0) (zbI (F_X12_isSign x0 47 M21) (fun r10 M22 => zit (r10 = 0) (zbI (F_X12_isSign x0 41 M22) (fun r11 M23 => zjo (fun  (M26 : zM) => k1 0 M26) (fun (k8 : zM → zO) => zit (r11 = 0) (k8 M23) (zbI (F_X12_isOpened x0 M23) (fun r12 M24 => zit (r12 = 0) (k8 M24) (zbV (F_X12_closes x0 M24) (fun M25 => k1 x1 M25))))))) (k7 M22))) (k7 M21)))) (k6 M20))) (k6 M19)))) (fun (k3 : zM → zO) => zjo (fun  (M10 : zM) => zck (zin (M10 x0 35) 9) (zit ((M10 (zgr x0 46) (zix (M10 x0 35))) = 0) (zbV (F_X12_drops x0 4 M10) (fun M11 => zbI (F_X12_isSign x0 60 M11) (fun r6 M12 => zjo (fun (w1 : Int32) (M13 : zM) => zbV (F_X12_waitsFor x0 w1 M13) (fun M14 => zck (zin (M14 x0 35) 9 && zbo 1) (zst (zup M14 (zgr x0 46) (zix (M14 x0 35)) 1) (fun M15 => zbV (F_X12_goes x0 M15) (fun M16 => zbV (F_X12_operand x0 0 M16) (fun M17 => k1 x1 M17)))))) (fun (k5 : Int32 → zM → zO) => zit (r6 = 0) (k5 7 M12) (k5 6 M12))))) (k3 M10))) (fun (k4 : zM → zO) => zit (r4 = 0) (zbI (F_X12_isSign x0 61 M8) (fun r5 M9 => zit (r5 = 0) (k3 M9) (k4 M9))) (k4 M8))))))))))))
def F_X12_expression (t : Nat) (M : zM) : zO := zbI (F_X12_isGood t M) (fun r1 M1 => zit (r1 = 0) (zV M1) (zst (zup M1 t 34 0) (fun M2 => zst (zup M2 t 35 0) (fun M3 => zbV (F_X12_deeper t M3) (fun M4 => zbV (F_X12_operand t 1 M4) (fun M5 => F_X12_expression_L29 t (fun  (M50 : zM) => zbI (F_X12_isGood t M50) (fun r15 M51 => zjo (fun  (M53 : zM) => zbV (F_X12_drops t 0 M53) (fun M54 => zbV (F_X12_puts t 0 M54) (fun M55 => zV M55))) (fun (k13 : zM → zO) => zit (r15 = 0) (k13 M51) (zit ((M51 t 35) ≤ 1) (k13 M51) (zbV (F_X12_wrong t 1 M51) (fun M52 => k13 M52)))))) zN 1 M5))))))
set_option maxHeartbeats 1000000 in
set_option maxRecDepth 20000 in
theorem ct_X12_expression_L29 (l : Launch) (hl : l.stackTraces = false) (G : zG) (x0 : Nat) (hx0 : zsh x0 = 12) (K325 : zM → zO) (hK325 : ∀  (M : zM), zEv l G Y_X12_expression 6 0 325 [(0, .ref (G.2.1 + x0))] [] M (K325 M)) : ∀ (n : Nat) (x1 : Int32) (M : zM), zEv l G Y_X12_expression 6 0 29 [(0, .ref (G.2.1 + x0)), (1, .int x1)] [] M (F_X12_expression_L29 x0 K325 n x1 M) := by
  intro n
  induction n with
  | zero => intro x1 M; exact ev_none
  | succ n ih =>
    intro x1 M
    show zEv l G Y_X12_expression 6 0 29 [(0, .ref (G.2.1 + x0)), (1, .int x1)] [] M (zit (x1 = 0) (K325 M) (zbI (F_X12_isGood x0 M) (fun r2 M6 => zit (r2 = 0) (K325 M6) (zbI (F_X12_knownWord x0 M6) (fun r3 M7 => zjo (fun (w6 : Int32) (M49 : zM) => F_X12_expression_L29 x0 K325 n w6 M49) (fun (k1 : Int32 → zM → zO) => zjo (fun  (M41 : zM) => zjo (fun (w4 : Int32) (M42 : zM) => zbV (F_X12_drops x0 w4 M42) (fun M43 => zjo (fun (w5 : Int32) (M44 : zM) => zbV (F_X12_waitsFor x0 w5 M44) (fun M45 => zck (zin (M45 x0 35) 9 && zbo 0) (zst (zup M45 (zgr x0 46) (zix (M45 x0 35)) 0) (fun M46 => zbV (F_X12_goes x0 M46) (fun M47 => zbV (F_X12_operand x0 1 M47) (fun M48 => k1 x1 M48)))))) (fun (k12 : Int32 → zM → zO) => zit (r3 = 14) (k12 4 M43) (k12 5 M43)))) (fun (k11 : Int32 → zM → zO) => zit (r3 = 14) (k11 2 M41) (k11 1 M41))) (fun (k2 : zM → zO) => zit (r3 = 14) (k2 M7) (zit (r3 = 15) (k2 M7) (zbI (F_X12_isSign x0 60 M7) (fun r4 M8 => zjo (fun  (M18 : zM) => zbI (F_X12_isSign x0 43 M18) (fun r7 M19 => zjo (fun  (M34 : zM) => zbV (F_X12_drops x0 5 M34) (fun M35 => zbI (F_X12_isSign x0 43 M35) (fun r14 M36 => zjo (fun (w3 : Int32) (M37 : zM) => zbV (F_X12_waitsFor x0 w3 M37) (fun M38 => zbV (F_X12_goes x0 M38) (fun M39 => zbV (F_X12_operand x0 0 M39) (fun M40 => k1 x1 M40)))) (fun (k10 : Int32 → zM → zO) => zit (r14 = 0) (k10 9 M36) (k10 8 M36))))) (fun (k6 : zM → zO) => zit (r7 = 0) (zbI (F_X12_isSign x0 45 M19) (fun r8 M20 => zit (r8 = 0) (zbI (F_X12_isSign x0 42 M20) (fun r9 M21 => zjo (fun  (M27 : zM) => zbV (F_X12_drops x0 6 M27) (fun M28 => zbI (F_X12_isSign x0 42 M28) (fun r13 M29 => zjo (fun (w2 : Int32) (M30 : zM) => zbV (F_X12_waitsFor x0 w2 M30) (fun M31 => zbV (F_X12_goes x0 M31) (fun M32 => zbV (F_X12_operand x0 0 M32) (fun M33 => k1 x1 M33)))) (fun (k9 : Int32 → zM → zO) => zit (r13 = 0) (k9 11 M29) (k9 10 M29))))) (fun (k7 : zM → zO) => zit (r9 = 0) (zbI (F_X12_isSign x0 47 M21) (fun r10 M22 => zit (r10 = 0) (zbI (F_X12_isSign x0 41 M22) (fun r11 M23 => zjo (fun  (M26 : zM) => k1 0 M26) (fun (k8 : zM → zO) => zit (r11 = 0) (k8 M23) (zbI (F_X12_isOpened x0 M23) (fun r12 M24 => zit (r12 = 0) (k8 M24) (zbV (F_X12_closes x0 M24) (fun M25 => k1 x1 M25))))))) (k7 M22))) (k7 M21)))) (k6 M20))) (k6 M19)))) (fun (k3 : zM → zO) => zjo (fun  (M10 : zM) => zck (zin (M10 x0 35) 9) (zit ((M10 (zgr x0 46) (zix (M10 x0 35))) = 0) (zbV (F_X12_drops x0 4 M10) (fun M11 => zbI (F_X12_isSign x0 60 M11) (fun r6 M12 => zjo (fun (w1 : Int32) (M13 : zM) => zbV (F_X12_waitsFor x0 w1 M13) (fun M14 => zck (zin (M14 x0 35) 9 && zbo 1) (zst (zup M14 (zgr x0 46) (zix (M14 x0 35)) 1) (fun M15 => zbV (F_X12_goes x0 M15) (fun M16 => zbV (F_X12_operand x0 0 M16) (fun M17 => k1 x1 M17)))))) (fun (k5 : Int32 → zM → zO) => zit (r6 = 0) (k5 7 M12) (k5 6 M12))))) (k3 M10))) (fun (k4 : zM → zO) => zit (r4 = 0) (zbI (F_X12_isSign x0 61 M8) (fun r5 M9 => zit (r5 = 0) (k3 M9) (k4 M9))) (k4 M8)))))))))))))
    refine ev_iload_n dd_X12_expression_29 1 rfl ?_
    refine ev_if_eq 325 dd_X12_expression_30 (by decide) ?_ ?_
    · refine ev_lv (lv' := [(0, .ref (G.2.1 + x0))]) [0] rfl ?_
      exact hK325 _
    · refine ev_aload_n dd_X12_expression_33 0 rfl ?_
      refine ev_callVI (As := []) cl_RX12_212 (ct_X12_isGood l hl G x0 hx0 M) dd_X12_expression_34 hx0 (by decide) (Nat.le_of_ble_eq_true rfl) (Nat.le_of_ble_eq_true rfl) rfl rfl (fun r2 M6 => ?_)
      refine ev_if_eq 325 dd_X12_expression_37 (by decide) ?_ ?_
      · refine ev_lv (lv' := [(0, .ref (G.2.1 + x0))]) [0] rfl ?_
        exact hK325 _
      · refine ev_aload_n dd_X12_expression_40 0 rfl ?_
        refine ev_callVI (As := []) cl_RX12_240 (ct_X12_knownWord l hl G x0 hx0 M6) dd_X12_expression_41 hx0 (by decide) (Nat.le_of_ble_eq_true rfl) (Nat.le_of_ble_eq_true rfl) rfl rfl (fun r3 M7 => ?_)
        refine ev_istore_n (i := 2) (lv' := [(0, .ref (G.2.1 + x0)), (1, .int x1), (2, .int r3)]) [1, 2, 0] dd_X12_expression_44 rfl (by decide) rfl ?_
        refine ev_iload_n dd_X12_expression_45 2 rfl ?_
        refine ev_bipush (v := 14) dd_X12_expression_46 (by decide) ?_
        refine ev_jo (fun (k1 : Int32 → zM → zO) => ∀ (w6 : Int32) (M49 : zM), zEv l G Y_X12_expression 6 0 322 [(0, .ref (G.2.1 + x0)), (1, .int w6)] [] M49 (k1 w6 M49)) ?_ (fun k1 hk1 => ?_)
        · intro w6 M49
          refine ev_goto 29 dd_X12_expression_322 (by decide) ?_
          exact ih _ _
        · refine ev_jo (fun (k2 : zM → zO) => ∀  (M41 : zM), zEv l G Y_X12_expression 6 0 57 [(0, .ref (G.2.1 + x0)), (1, .int x1), (2, .int r3)] [] M41 (k2 M41)) ?_ (fun k2 hk2 => ?_)
          · intro M41
            refine ev_aload_n dd_X12_expression_57 0 rfl ?_
            refine ev_iload_n dd_X12_expression_58 2 rfl ?_
            refine ev_bipush (v := 14) dd_X12_expression_59 (by decide) ?_
            refine ev_jo (fun (k11 : Int32 → zM → zO) => ∀ (w4 : Int32) (M42 : zM), zEv l G Y_X12_expression 6 0 69 [(0, .ref (G.2.1 + x0)), (1, .int x1), (2, .int r3)] [.int w4, .ref (G.2.1 + x0)] M42 (k11 w4 M42)) ?_ (fun k11 hk11 => ?_)
            · intro w4 M42
              refine ev_callVV (As := [.int w4]) cl_RX12_259 (ct_X12_drops l hl G x0 hx0 w4 M42) dd_X12_expression_69 hx0 (by decide) (Nat.le_of_ble_eq_true rfl) (Nat.le_of_ble_eq_true rfl) rfl rfl (fun M43 => ?_)
              refine ev_aload_n dd_X12_expression_72 0 rfl ?_
              refine ev_iload_n dd_X12_expression_73 2 rfl ?_
              refine ev_lv (lv' := [(0, .ref (G.2.1 + x0)), (1, .int x1)]) [0, 1] rfl ?_
              refine ev_bipush (v := 14) dd_X12_expression_74 (by decide) ?_
              refine ev_jo (fun (k12 : Int32 → zM → zO) => ∀ (w5 : Int32) (M44 : zM), zEv l G Y_X12_expression 6 0 84 [(0, .ref (G.2.1 + x0)), (1, .int x1)] [.int w5, .ref (G.2.1 + x0)] M44 (k12 w5 M44)) ?_ (fun k12 hk12 => ?_)
              · intro w5 M44
                refine ev_callVV (As := [.int w5]) cl_RX12_250 (ct_X12_waitsFor l hl G x0 hx0 w5 M44) dd_X12_expression_84 hx0 (by decide) (Nat.le_of_ble_eq_true rfl) (Nat.le_of_ble_eq_true rfl) rfl rfl (fun M45 => ?_)
                refine ev_aload_n dd_X12_expression_87 0 rfl ?_
                refine ev_getR gf_RX12_83 dd_X12_expression_88 hx0 (by decide) ?_
                refine ev_aload_n dd_X12_expression_91 0 rfl ?_
                refine ev_getI gf_RX12_244 dd_X12_expression_92 hx0 (by decide) ?_
                refine ev_iconst (v := 0) dd_X12_expression_95 (by decide) ?_
                refine ev_zast dd_X12_expression_96 ((zg_12_46 hx0).1) ((zg_12_46 hx0).2) ?_
                refine ev_st (fun M46 => ?_)
                refine ev_aload_n dd_X12_expression_97 0 rfl ?_
                refine ev_callVV (As := []) cl_RX12_216 (ct_X12_goes l hl G x0 hx0 M46) dd_X12_expression_98 hx0 (by decide) (Nat.le_of_ble_eq_true rfl) (Nat.le_of_ble_eq_true rfl) rfl rfl (fun M47 => ?_)
                refine ev_aload_n dd_X12_expression_101 0 rfl ?_
                refine ev_iconst (v := 1) dd_X12_expression_102 (by decide) ?_
                refine ev_callVV (As := [.int 1]) cl_RX12_262 (ct_X12_operand l hl G x0 hx0 1 M47) dd_X12_expression_103 hx0 (by decide) (Nat.le_of_ble_eq_true rfl) (Nat.le_of_ble_eq_true rfl) rfl rfl (fun M48 => ?_)
                refine ev_goto 322 dd_X12_expression_106 (by decide) ?_
                exact hk1 _ _
              · refine ev_icmp_ne 83 dd_X12_expression_76 (by decide) ?_ ?_
                · refine ev_iconst (v := 5) dd_X12_expression_83 (by decide) ?_
                  exact hk12 _ _
                · refine ev_iconst (v := 4) dd_X12_expression_79 (by decide) ?_
                  refine ev_goto 84 dd_X12_expression_80 (by decide) ?_
                  exact hk12 _ _
            · refine ev_icmp_ne 68 dd_X12_expression_61 (by decide) ?_ ?_
              · refine ev_iconst (v := 1) dd_X12_expression_68 (by decide) ?_
                exact hk11 _ _
              · refine ev_iconst (v := 2) dd_X12_expression_64 (by decide) ?_
                refine ev_goto 69 dd_X12_expression_65 (by decide) ?_
                exact hk11 _ _
          · refine ev_icmp_eq 57 dd_X12_expression_48 (by decide) ?_ ?_
            · exact hk2 _
            · refine ev_iload_n dd_X12_expression_51 2 rfl ?_
              refine ev_bipush (v := 15) dd_X12_expression_52 (by decide) ?_
              refine ev_icmp_ne 109 dd_X12_expression_54 (by decide) ?_ ?_
              · refine ev_lv (lv' := [(0, .ref (G.2.1 + x0)), (1, .int x1)]) [0, 1] rfl ?_
                refine ev_aload_n dd_X12_expression_109 0 rfl ?_
                refine ev_bipush (v := 60) dd_X12_expression_110 (by decide) ?_
                refine ev_callVI (As := [.int 60]) cl_RX12_247 (ct_X12_isSign l hl G x0 hx0 60 M7) dd_X12_expression_112 hx0 (by decide) (Nat.le_of_ble_eq_true rfl) (Nat.le_of_ble_eq_true rfl) rfl rfl (fun r4 M8 => ?_)
                refine ev_jo (fun (k3 : zM → zO) => ∀  (M18 : zM), zEv l G Y_X12_expression 6 0 186 [(0, .ref (G.2.1 + x0)), (1, .int x1)] [] M18 (k3 M18)) ?_ (fun k3 hk3 => ?_)
                · intro M18
                  refine ev_aload_n dd_X12_expression_186 0 rfl ?_
                  refine ev_bipush (v := 43) dd_X12_expression_187 (by decide) ?_
                  refine ev_callVI (As := [.int 43]) cl_RX12_247 (ct_X12_isSign l hl G x0 hx0 43 M18) dd_X12_expression_189 hx0 (by decide) (Nat.le_of_ble_eq_true rfl) (Nat.le_of_ble_eq_true rfl) rfl rfl (fun r7 M19 => ?_)
                  refine ev_jo (fun (k6 : zM → zO) => ∀  (M34 : zM), zEv l G Y_X12_expression 6 0 204 [(0, .ref (G.2.1 + x0)), (1, .int x1)] [] M34 (k6 M34)) ?_ (fun k6 hk6 => ?_)
                  · intro M34
                    refine ev_aload_n dd_X12_expression_204 0 rfl ?_
                    refine ev_iconst (v := 5) dd_X12_expression_205 (by decide) ?_
                    refine ev_callVV (As := [.int 5]) cl_RX12_259 (ct_X12_drops l hl G x0 hx0 5 M34) dd_X12_expression_206 hx0 (by decide) (Nat.le_of_ble_eq_true rfl) (Nat.le_of_ble_eq_true rfl) rfl rfl (fun M35 => ?_)
                    refine ev_aload_n dd_X12_expression_209 0 rfl ?_
                    refine ev_aload_n dd_X12_expression_210 0 rfl ?_
                    refine ev_bipush (v := 43) dd_X12_expression_211 (by decide) ?_
                    refine ev_callVI (As := [.int 43]) cl_RX12_247 (ct_X12_isSign l hl G x0 hx0 43 M35) dd_X12_expression_213 hx0 (by decide) (Nat.le_of_ble_eq_true rfl) (Nat.le_of_ble_eq_true rfl) rfl rfl (fun r14 M36 => ?_)
                    refine ev_jo (fun (k10 : Int32 → zM → zO) => ∀ (w3 : Int32) (M37 : zM), zEv l G Y_X12_expression 6 0 226 [(0, .ref (G.2.1 + x0)), (1, .int x1)] [.int w3, .ref (G.2.1 + x0)] M37 (k10 w3 M37)) ?_ (fun k10 hk10 => ?_)
                    · intro w3 M37
                      refine ev_callVV (As := [.int w3]) cl_RX12_250 (ct_X12_waitsFor l hl G x0 hx0 w3 M37) dd_X12_expression_226 hx0 (by decide) (Nat.le_of_ble_eq_true rfl) (Nat.le_of_ble_eq_true rfl) rfl rfl (fun M38 => ?_)
                      refine ev_aload_n dd_X12_expression_229 0 rfl ?_
                      refine ev_callVV (As := []) cl_RX12_216 (ct_X12_goes l hl G x0 hx0 M38) dd_X12_expression_230 hx0 (by decide) (Nat.le_of_ble_eq_true rfl) (Nat.le_of_ble_eq_true rfl) rfl rfl (fun M39 => ?_)
                      refine ev_aload_n dd_X12_expression_233 0 rfl ?_
                      refine ev_iconst (v := 0) dd_X12_expression_234 (by decide) ?_
                      refine ev_callVV (As := [.int 0]) cl_RX12_262 (ct_X12_operand l hl G x0 hx0 0 M39) dd_X12_expression_235 hx0 (by decide) (Nat.le_of_ble_eq_true rfl) (Nat.le_of_ble_eq_true rfl) rfl rfl (fun M40 => ?_)
                      refine ev_goto 322 dd_X12_expression_238 (by decide) ?_
                      exact hk1 _ _
                    · refine ev_if_eq 224 dd_X12_expression_216 (by decide) ?_ ?_
                      · refine ev_bipush (v := 9) dd_X12_expression_224 (by decide) ?_
                        exact hk10 _ _
                      · refine ev_bipush (v := 8) dd_X12_expression_219 (by decide) ?_
                        refine ev_goto 226 dd_X12_expression_221 (by decide) ?_
                        exact hk10 _ _
                  · refine ev_if_ne 204 dd_X12_expression_192 (by decide) ?_ ?_
                    · exact hk6 _
                    · refine ev_aload_n dd_X12_expression_195 0 rfl ?_
                      refine ev_bipush (v := 45) dd_X12_expression_196 (by decide) ?_
                      refine ev_callVI (As := [.int 45]) cl_RX12_247 (ct_X12_isSign l hl G x0 hx0 45 M19) dd_X12_expression_198 hx0 (by decide) (Nat.le_of_ble_eq_true rfl) (Nat.le_of_ble_eq_true rfl) rfl rfl (fun r8 M20 => ?_)
                      refine ev_if_eq 241 dd_X12_expression_201 (by decide) ?_ ?_
                      · refine ev_aload_n dd_X12_expression_241 0 rfl ?_
                        refine ev_bipush (v := 42) dd_X12_expression_242 (by decide) ?_
                        refine ev_callVI (As := [.int 42]) cl_RX12_247 (ct_X12_isSign l hl G x0 hx0 42 M20) dd_X12_expression_244 hx0 (by decide) (Nat.le_of_ble_eq_true rfl) (Nat.le_of_ble_eq_true rfl) rfl rfl (fun r9 M21 => ?_)
                        refine ev_jo (fun (k7 : zM → zO) => ∀  (M27 : zM), zEv l G Y_X12_expression 6 0 259 [(0, .ref (G.2.1 + x0)), (1, .int x1)] [] M27 (k7 M27)) ?_ (fun k7 hk7 => ?_)
                        · intro M27
                          refine ev_aload_n dd_X12_expression_259 0 rfl ?_
                          refine ev_bipush (v := 6) dd_X12_expression_260 (by decide) ?_
                          refine ev_callVV (As := [.int 6]) cl_RX12_259 (ct_X12_drops l hl G x0 hx0 6 M27) dd_X12_expression_262 hx0 (by decide) (Nat.le_of_ble_eq_true rfl) (Nat.le_of_ble_eq_true rfl) rfl rfl (fun M28 => ?_)
                          refine ev_aload_n dd_X12_expression_265 0 rfl ?_
                          refine ev_aload_n dd_X12_expression_266 0 rfl ?_
                          refine ev_bipush (v := 42) dd_X12_expression_267 (by decide) ?_
                          refine ev_callVI (As := [.int 42]) cl_RX12_247 (ct_X12_isSign l hl G x0 hx0 42 M28) dd_X12_expression_269 hx0 (by decide) (Nat.le_of_ble_eq_true rfl) (Nat.le_of_ble_eq_true rfl) rfl rfl (fun r13 M29 => ?_)
                          refine ev_jo (fun (k9 : Int32 → zM → zO) => ∀ (w2 : Int32) (M30 : zM), zEv l G Y_X12_expression 6 0 282 [(0, .ref (G.2.1 + x0)), (1, .int x1)] [.int w2, .ref (G.2.1 + x0)] M30 (k9 w2 M30)) ?_ (fun k9 hk9 => ?_)
                          · intro w2 M30
                            refine ev_callVV (As := [.int w2]) cl_RX12_250 (ct_X12_waitsFor l hl G x0 hx0 w2 M30) dd_X12_expression_282 hx0 (by decide) (Nat.le_of_ble_eq_true rfl) (Nat.le_of_ble_eq_true rfl) rfl rfl (fun M31 => ?_)
                            refine ev_aload_n dd_X12_expression_285 0 rfl ?_
                            refine ev_callVV (As := []) cl_RX12_216 (ct_X12_goes l hl G x0 hx0 M31) dd_X12_expression_286 hx0 (by decide) (Nat.le_of_ble_eq_true rfl) (Nat.le_of_ble_eq_true rfl) rfl rfl (fun M32 => ?_)
                            refine ev_aload_n dd_X12_expression_289 0 rfl ?_
                            refine ev_iconst (v := 0) dd_X12_expression_290 (by decide) ?_
                            refine ev_callVV (As := [.int 0]) cl_RX12_262 (ct_X12_operand l hl G x0 hx0 0 M32) dd_X12_expression_291 hx0 (by decide) (Nat.le_of_ble_eq_true rfl) (Nat.le_of_ble_eq_true rfl) rfl rfl (fun M33 => ?_)
                            refine ev_goto 322 dd_X12_expression_294 (by decide) ?_
                            exact hk1 _ _
                          · refine ev_if_eq 280 dd_X12_expression_272 (by decide) ?_ ?_
                            · refine ev_bipush (v := 11) dd_X12_expression_280 (by decide) ?_
                              exact hk9 _ _
                            · refine ev_bipush (v := 10) dd_X12_expression_275 (by decide) ?_
                              refine ev_goto 282 dd_X12_expression_277 (by decide) ?_
                              exact hk9 _ _
                        · refine ev_if_ne 259 dd_X12_expression_247 (by decide) ?_ ?_
                          · exact hk7 _
                          · refine ev_aload_n dd_X12_expression_250 0 rfl ?_
                            refine ev_bipush (v := 47) dd_X12_expression_251 (by decide) ?_
                            refine ev_callVI (As := [.int 47]) cl_RX12_247 (ct_X12_isSign l hl G x0 hx0 47 M21) dd_X12_expression_253 hx0 (by decide) (Nat.le_of_ble_eq_true rfl) (Nat.le_of_ble_eq_true rfl) rfl rfl (fun r10 M22 => ?_)
                            refine ev_if_eq 297 dd_X12_expression_256 (by decide) ?_ ?_
                            · refine ev_aload_n dd_X12_expression_297 0 rfl ?_
                              refine ev_bipush (v := 41) dd_X12_expression_298 (by decide) ?_
                              refine ev_callVI (As := [.int 41]) cl_RX12_247 (ct_X12_isSign l hl G x0 hx0 41 M22) dd_X12_expression_300 hx0 (by decide) (Nat.le_of_ble_eq_true rfl) (Nat.le_of_ble_eq_true rfl) rfl rfl (fun r11 M23 => ?_)
                              refine ev_jo (fun (k8 : zM → zO) => ∀  (M26 : zM), zEv l G Y_X12_expression 6 0 320 [(0, .ref (G.2.1 + x0))] [] M26 (k8 M26)) ?_ (fun k8 hk8 => ?_)
                              · intro M26
                                refine ev_iconst (v := 0) dd_X12_expression_320 (by decide) ?_
                                refine ev_istore_n (i := 1) (lv' := [(0, .ref (G.2.1 + x0)), (1, .int 0)]) [1, 0] dd_X12_expression_321 rfl (by decide) rfl ?_
                                exact hk1 _ _
                              · refine ev_if_eq 320 dd_X12_expression_303 (by decide) ?_ ?_
                                · refine ev_lv (lv' := [(0, .ref (G.2.1 + x0))]) [0] rfl ?_
                                  exact hk8 _
                                · refine ev_aload_n dd_X12_expression_306 0 rfl ?_
                                  refine ev_callVI (As := []) cl_RX12_266 (ct_X12_isOpened l hl G x0 hx0 M23) dd_X12_expression_307 hx0 (by decide) (Nat.le_of_ble_eq_true rfl) (Nat.le_of_ble_eq_true rfl) rfl rfl (fun r12 M24 => ?_)
                                  refine ev_if_eq 320 dd_X12_expression_310 (by decide) ?_ ?_
                                  · refine ev_lv (lv' := [(0, .ref (G.2.1 + x0))]) [0] rfl ?_
                                    exact hk8 _
                                  · refine ev_aload_n dd_X12_expression_313 0 rfl ?_
                                    refine ev_callVV (As := []) cl_RX12_269 (ct_X12_closes l hl G x0 hx0 M24) dd_X12_expression_314 hx0 (by decide) (Nat.le_of_ble_eq_true rfl) (Nat.le_of_ble_eq_true rfl) rfl rfl (fun M25 => ?_)
                                    refine ev_goto 322 dd_X12_expression_317 (by decide) ?_
                                    exact hk1 _ _
                            · exact hk7 _
                      · exact hk6 _
                · refine ev_jo (fun (k4 : zM → zO) => ∀  (M10 : zM), zEv l G Y_X12_expression 6 0 127 [(0, .ref (G.2.1 + x0)), (1, .int x1)] [] M10 (k4 M10)) ?_ (fun k4 hk4 => ?_)
                  · intro M10
                    refine ev_aload_n dd_X12_expression_127 0 rfl ?_
                    refine ev_getR gf_RX12_83 dd_X12_expression_128 hx0 (by decide) ?_
                    refine ev_aload_n dd_X12_expression_131 0 rfl ?_
                    refine ev_getI gf_RX12_244 dd_X12_expression_132 hx0 (by decide) ?_
                    refine ev_zald dd_X12_expression_135 ((zg_12_46 hx0).1) ((zg_12_46 hx0).2) ?_
                    refine ev_if_ne 186 dd_X12_expression_136 (by decide) ?_ ?_
                    · exact hk3 _
                    · refine ev_aload_n dd_X12_expression_139 0 rfl ?_
                      refine ev_iconst (v := 4) dd_X12_expression_140 (by decide) ?_
                      refine ev_callVV (As := [.int 4]) cl_RX12_259 (ct_X12_drops l hl G x0 hx0 4 M10) dd_X12_expression_141 hx0 (by decide) (Nat.le_of_ble_eq_true rfl) (Nat.le_of_ble_eq_true rfl) rfl rfl (fun M11 => ?_)
                      refine ev_aload_n dd_X12_expression_144 0 rfl ?_
                      refine ev_aload_n dd_X12_expression_145 0 rfl ?_
                      refine ev_bipush (v := 60) dd_X12_expression_146 (by decide) ?_
                      refine ev_callVI (As := [.int 60]) cl_RX12_247 (ct_X12_isSign l hl G x0 hx0 60 M11) dd_X12_expression_148 hx0 (by decide) (Nat.le_of_ble_eq_true rfl) (Nat.le_of_ble_eq_true rfl) rfl rfl (fun r6 M12 => ?_)
                      refine ev_jo (fun (k5 : Int32 → zM → zO) => ∀ (w1 : Int32) (M13 : zM), zEv l G Y_X12_expression 6 0 161 [(0, .ref (G.2.1 + x0)), (1, .int x1)] [.int w1, .ref (G.2.1 + x0)] M13 (k5 w1 M13)) ?_ (fun k5 hk5 => ?_)
                      · intro w1 M13
                        refine ev_callVV (As := [.int w1]) cl_RX12_250 (ct_X12_waitsFor l hl G x0 hx0 w1 M13) dd_X12_expression_161 hx0 (by decide) (Nat.le_of_ble_eq_true rfl) (Nat.le_of_ble_eq_true rfl) rfl rfl (fun M14 => ?_)
                        refine ev_aload_n dd_X12_expression_164 0 rfl ?_
                        refine ev_getR gf_RX12_83 dd_X12_expression_165 hx0 (by decide) ?_
                        refine ev_aload_n dd_X12_expression_168 0 rfl ?_
                        refine ev_getI gf_RX12_244 dd_X12_expression_169 hx0 (by decide) ?_
                        refine ev_iconst (v := 1) dd_X12_expression_172 (by decide) ?_
                        refine ev_zast dd_X12_expression_173 ((zg_12_46 hx0).1) ((zg_12_46 hx0).2) ?_
                        refine ev_st (fun M15 => ?_)
                        refine ev_aload_n dd_X12_expression_174 0 rfl ?_
                        refine ev_callVV (As := []) cl_RX12_216 (ct_X12_goes l hl G x0 hx0 M15) dd_X12_expression_175 hx0 (by decide) (Nat.le_of_ble_eq_true rfl) (Nat.le_of_ble_eq_true rfl) rfl rfl (fun M16 => ?_)
                        refine ev_aload_n dd_X12_expression_178 0 rfl ?_
                        refine ev_iconst (v := 0) dd_X12_expression_179 (by decide) ?_
                        refine ev_callVV (As := [.int 0]) cl_RX12_262 (ct_X12_operand l hl G x0 hx0 0 M16) dd_X12_expression_180 hx0 (by decide) (Nat.le_of_ble_eq_true rfl) (Nat.le_of_ble_eq_true rfl) rfl rfl (fun M17 => ?_)
                        refine ev_goto 322 dd_X12_expression_183 (by decide) ?_
                        exact hk1 _ _
                      · refine ev_if_eq 159 dd_X12_expression_151 (by decide) ?_ ?_
                        · refine ev_bipush (v := 7) dd_X12_expression_159 (by decide) ?_
                          exact hk5 _ _
                        · refine ev_bipush (v := 6) dd_X12_expression_154 (by decide) ?_
                          refine ev_goto 161 dd_X12_expression_156 (by decide) ?_
                          exact hk5 _ _
                  · refine ev_if_ne 127 dd_X12_expression_115 (by decide) ?_ ?_
                    · exact hk4 _
                    · refine ev_aload_n dd_X12_expression_118 0 rfl ?_
                      refine ev_bipush (v := 61) dd_X12_expression_119 (by decide) ?_
                      refine ev_callVI (As := [.int 61]) cl_RX12_247 (ct_X12_isSign l hl G x0 hx0 61 M8) dd_X12_expression_121 hx0 (by decide) (Nat.le_of_ble_eq_true rfl) (Nat.le_of_ble_eq_true rfl) rfl rfl (fun r5 M9 => ?_)
                      refine ev_if_eq 186 dd_X12_expression_124 (by decide) ?_ ?_
                      · exact hk3 _
                      · exact hk4 _
              · exact hk2 _
set_option maxHeartbeats 1000000 in
set_option maxRecDepth 20000 in
theorem ct_X12_expression (l : Launch) (hl : l.stackTraces = false) (G : zG) (t : Nat) (ht : zsh t = 12) (M : zM) : zMt l G Y_X12_expression 6 [.ref (G.2.1 + t)] M (F_X12_expression t M) := by
  refine zMt_of (by decide +kernel) (Nat.le_of_ble_eq_true rfl) ?_
  show zEv l G Y_X12_expression 6 0 0 [(0, .ref (G.2.1 + t))] [] M (zbI (F_X12_isGood t M) (fun r1 M1 => zit (r1 = 0) (zV M1) (zst (zup M1 t 34 0) (fun M2 => zst (zup M2 t 35 0) (fun M3 => zbV (F_X12_deeper t M3) (fun M4 => zbV (F_X12_operand t 1 M4) (fun M5 => F_X12_expression_L29 t (fun  (M50 : zM) => zbI (F_X12_isGood t M50) (fun r15 M51 => zjo (fun  (M53 : zM) => zbV (F_X12_drops t 0 M53) (fun M54 => zbV (F_X12_puts t 0 M54) (fun M55 => zV M55))) (fun (k13 : zM → zO) => zit (r15 = 0) (k13 M51) (zit ((M51 t 35) ≤ 1) (k13 M51) (zbV (F_X12_wrong t 1 M51) (fun M52 => k13 M52)))))) zN 1 M5)))))))
  refine ev_aload_n dd_X12_expression_0 0 rfl ?_
  refine ev_callVI (As := []) cl_RX12_212 (ct_X12_isGood l hl G t ht M) dd_X12_expression_1 ht (by decide) (Nat.le_of_ble_eq_true rfl) (Nat.le_of_ble_eq_true rfl) rfl rfl (fun r1 M1 => ?_)
  refine ev_if_ne 8 dd_X12_expression_4 (by decide) ?_ ?_
  · refine ev_aload_n dd_X12_expression_8 0 rfl ?_
    refine ev_iconst (v := 0) dd_X12_expression_9 (by decide) ?_
    refine ev_putI gw_RX12_228 dd_X12_expression_10 ht (by decide) ?_
    refine ev_st (fun M2 => ?_)
    refine ev_aload_n dd_X12_expression_13 0 rfl ?_
    refine ev_iconst (v := 0) dd_X12_expression_14 (by decide) ?_
    refine ev_putI gw_RX12_244 dd_X12_expression_15 ht (by decide) ?_
    refine ev_st (fun M3 => ?_)
    refine ev_aload_n dd_X12_expression_18 0 rfl ?_
    refine ev_callVV (As := []) cl_RX12_253 (ct_X12_deeper l hl G t ht M3) dd_X12_expression_19 ht (by decide) (Nat.le_of_ble_eq_true rfl) (Nat.le_of_ble_eq_true rfl) rfl rfl (fun M4 => ?_)
    refine ev_aload_n dd_X12_expression_22 0 rfl ?_
    refine ev_iconst (v := 1) dd_X12_expression_23 (by decide) ?_
    refine ev_callVV (As := [.int 1]) cl_RX12_262 (ct_X12_operand l hl G t ht 1 M4) dd_X12_expression_24 ht (by decide) (Nat.le_of_ble_eq_true rfl) (Nat.le_of_ble_eq_true rfl) rfl rfl (fun M5 => ?_)
    refine ev_iconst (v := 1) dd_X12_expression_27 (by decide) ?_
    refine ev_istore_n (i := 1) (lv' := [(0, .ref (G.2.1 + t)), (1, .int 1)]) [1, 0] dd_X12_expression_28 rfl (by decide) rfl ?_
    refine ct_X12_expression_L29 l hl G t ht _ (fun M50 => ?_) zN _ _
    refine ev_aload_n dd_X12_expression_325 0 rfl ?_
    refine ev_callVI (As := []) cl_RX12_212 (ct_X12_isGood l hl G t ht M50) dd_X12_expression_326 ht (by decide) (Nat.le_of_ble_eq_true rfl) (Nat.le_of_ble_eq_true rfl) rfl rfl (fun r15 M51 => ?_)
    refine ev_jo (fun (k13 : zM → zO) => ∀  (M53 : zM), zEv l G Y_X12_expression 6 0 345 [(0, .ref (G.2.1 + t))] [] M53 (k13 M53)) ?_ (fun k13 hk13 => ?_)
    · intro M53
      refine ev_aload_n dd_X12_expression_345 0 rfl ?_
      refine ev_iconst (v := 0) dd_X12_expression_346 (by decide) ?_
      refine ev_callVV (As := [.int 0]) cl_RX12_259 (ct_X12_drops l hl G t ht 0 M53) dd_X12_expression_347 ht (by decide) (Nat.le_of_ble_eq_true rfl) (Nat.le_of_ble_eq_true rfl) rfl rfl (fun M54 => ?_)
      refine ev_aload_n dd_X12_expression_350 0 rfl ?_
      refine ev_lv (lv' := []) [] rfl ?_
      refine ev_iconst (v := 0) dd_X12_expression_351 (by decide) ?_
      refine ev_callVV (As := [.int 0]) cl_RX12_237 (ct_X12_puts l hl G t ht 0 M54) dd_X12_expression_352 ht (by decide) (Nat.le_of_ble_eq_true rfl) (Nat.le_of_ble_eq_true rfl) rfl rfl (fun M55 => ?_)
      exact ev_vret dd_X12_expression_355 rfl (Nat.le_of_ble_eq_true rfl) rfl
    · refine ev_if_eq 345 dd_X12_expression_329 (by decide) ?_ ?_
      · exact hk13 _
      · refine ev_aload_n dd_X12_expression_332 0 rfl ?_
        refine ev_getI gf_RX12_244 dd_X12_expression_333 ht (by decide) ?_
        refine ev_iconst (v := 1) dd_X12_expression_336 (by decide) ?_
        refine ev_icmp_le 345 dd_X12_expression_337 (by decide) ?_ ?_
        · exact hk13 _
        · refine ev_aload_n dd_X12_expression_340 0 rfl ?_
          refine ev_iconst (v := 1) dd_X12_expression_341 (by decide) ?_
          refine ev_callVV (As := [.int 1]) cl_RX12_219 (ct_X12_wrong l hl G t ht 1 M51) dd_X12_expression_342 ht (by decide) (Nat.le_of_ble_eq_true rfl) (Nat.le_of_ble_eq_true rfl) rfl rfl (fun M52 => ?_)
          exact hk13 _
  · refine ev_lv (lv' := []) [] rfl ?_
    exact ev_vret dd_X12_expression_7 rfl (Nat.le_of_ble_eq_true rfl) rfl
/-! X12_fault -/
theorem dd_X12_fault_0 : decode Y_X12_fault.2.1 0 = .ok (.aload_n 0, 1) := by decide +kernel
theorem dd_X12_fault_1 : decode Y_X12_fault.2.1 1 = .ok (.iconst 0, 1) := by decide +kernel
theorem dd_X12_fault_2 : decode Y_X12_fault.2.1 2 = .ok (.putfield 153, 3) := by decide +kernel
theorem dd_X12_fault_5 : decode Y_X12_fault.2.1 5 = .ok (.aload_n 0, 1) := by decide +kernel
theorem dd_X12_fault_6 : decode Y_X12_fault.2.1 6 = .ok (.getfield 47, 3) := by decide +kernel
theorem dd_X12_fault_9 : decode Y_X12_fault.2.1 9 = .ok (.ireturn, 1) := by decide +kernel
def F_X12_fault (t : Nat) (M : zM) : zO := zst (zup M t 0 0) (fun M1 => zI (M1 t 17) M1)
set_option maxHeartbeats 1000000 in
set_option maxRecDepth 20000 in
theorem ct_X12_fault (l : Launch) (hl : l.stackTraces = false) (G : zG) (t : Nat) (ht : zsh t = 12) (M : zM) : zMt l G Y_X12_fault 1 [.ref (G.2.1 + t)] M (F_X12_fault t M) := by
  refine zMt_of (by decide +kernel) (Nat.le_of_ble_eq_true rfl) ?_
  show zEv l G Y_X12_fault 1 0 0 [(0, .ref (G.2.1 + t))] [] M (zst (zup M t 0 0) (fun M1 => zI (M1 t 17) M1))
  refine ev_aload_n dd_X12_fault_0 0 rfl ?_
  refine ev_iconst (v := 0) dd_X12_fault_1 (by decide) ?_
  refine ev_putI gw_RX12_153 dd_X12_fault_2 ht (by decide) ?_
  refine ev_st (fun M1 => ?_)
  refine ev_aload_n dd_X12_fault_5 0 rfl ?_
  refine ev_lv (lv' := []) [] rfl ?_
  refine ev_getI gf_RX12_47 dd_X12_fault_6 ht (by decide) ?_
  exact ev_iret dd_X12_fault_9 rfl (Nat.le_of_ble_eq_true rfl) rfl
/-! X12_lays -/
theorem dd_X12_lays_0 : decode Y_X12_lays.2.1 0 = .ok (.bipush 24, 2) := by decide +kernel
theorem dd_X12_lays_2 : decode Y_X12_lays.2.1 2 = .ok (.istore_n 2, 1) := by decide +kernel
theorem dd_X12_lays_3 : decode Y_X12_lays.2.1 3 = .ok (.iload_n 2, 1) := by decide +kernel
theorem dd_X12_lays_4 : decode Y_X12_lays.2.1 4 = .ok (.ifCond .lt 35, 3) := by decide +kernel
theorem dd_X12_lays_7 : decode Y_X12_lays.2.1 7 = .ok (.aload_n 0, 1) := by decide +kernel
theorem dd_X12_lays_8 : decode Y_X12_lays.2.1 8 = .ok (.getfield 44, 3) := by decide +kernel
theorem dd_X12_lays_11 : decode Y_X12_lays.2.1 11 = .ok (.aload_n 0, 1) := by decide +kernel
theorem dd_X12_lays_12 : decode Y_X12_lays.2.1 12 = .ok (.getfield 156, 3) := by decide +kernel
theorem dd_X12_lays_15 : decode Y_X12_lays.2.1 15 = .ok (.iload_n 1, 1) := by decide +kernel
theorem dd_X12_lays_16 : decode Y_X12_lays.2.1 16 = .ok (.iload_n 2, 1) := by decide +kernel
theorem dd_X12_lays_17 : decode Y_X12_lays.2.1 17 = .ok (.ishr, 1) := by decide +kernel
theorem dd_X12_lays_18 : decode Y_X12_lays.2.1 18 = .ok (.sipush 255, 3) := by decide +kernel
theorem dd_X12_lays_21 : decode Y_X12_lays.2.1 21 = .ok (.iand, 1) := by decide +kernel
theorem dd_X12_lays_22 : decode Y_X12_lays.2.1 22 = .ok (.iastore, 1) := by decide +kernel
theorem dd_X12_lays_23 : decode Y_X12_lays.2.1 23 = .ok (.aload_n 0, 1) := by decide +kernel
theorem dd_X12_lays_24 : decode Y_X12_lays.2.1 24 = .ok (.dup, 1) := by decide +kernel
theorem dd_X12_lays_25 : decode Y_X12_lays.2.1 25 = .ok (.getfield 156, 3) := by decide +kernel
theorem dd_X12_lays_28 : decode Y_X12_lays.2.1 28 = .ok (.iconst 1, 1) := by decide +kernel
theorem dd_X12_lays_29 : decode Y_X12_lays.2.1 29 = .ok (.iadd, 1) := by decide +kernel
theorem dd_X12_lays_30 : decode Y_X12_lays.2.1 30 = .ok (.putfield 156, 3) := by decide +kernel
theorem dd_X12_lays_33 : decode Y_X12_lays.2.1 33 = .ok (.iinc 2 (-8), 3) := by decide +kernel
theorem dd_X12_lays_36 : decode Y_X12_lays.2.1 36 = .ok (.goto (-33), 3) := by decide +kernel
theorem dd_X12_lays_39 : decode Y_X12_lays.2.1 39 = .ok (.return_, 1) := by decide +kernel
def F_X12_lays_L3 (x0 : Nat) (x1 : Int32) (K39 : zM → zO) : Nat → Int32 → zM → zO
  | 0, _, _ => none
  | n + 1, x2, M => zit (x2 < 0) (K39 M) (zck (zin (M x0 15) 700) (zst (zup M (zgr x0 14) (zix (M x0 15)) ((x1 >>> (x2 &&& 31)) &&& 255)) (fun M1 => zst (zup M1 x0 15 ((M1 x0 15) + 1)) (fun M2 => F_X12_lays_L3 x0 x1 K39 n (x2 + (-8)) M2))))
def F_X12_lays (t : Nat) (a1 : Int32) (M : zM) : zO := F_X12_lays_L3 t a1 (fun  (M3 : zM) => zV M3) zN 24 M
set_option maxHeartbeats 1000000 in
set_option maxRecDepth 20000 in
theorem ct_X12_lays_L3 (l : Launch) (hl : l.stackTraces = false) (G : zG) (x0 : Nat) (hx0 : zsh x0 = 12) (x1 : Int32) (K39 : zM → zO) (hK39 : ∀  (M : zM), zEv l G Y_X12_lays 1 0 39 [] [] M (K39 M)) : ∀ (n : Nat) (x2 : Int32) (M : zM), zEv l G Y_X12_lays 1 0 3 [(0, .ref (G.2.1 + x0)), (1, .int x1), (2, .int x2)] [] M (F_X12_lays_L3 x0 x1 K39 n x2 M) := by
  intro n
  induction n with
  | zero => intro x2 M; exact ev_none
  | succ n ih =>
    intro x2 M
    show zEv l G Y_X12_lays 1 0 3 [(0, .ref (G.2.1 + x0)), (1, .int x1), (2, .int x2)] [] M (zit (x2 < 0) (K39 M) (zck (zin (M x0 15) 700) (zst (zup M (zgr x0 14) (zix (M x0 15)) ((x1 >>> (x2 &&& 31)) &&& 255)) (fun M1 => zst (zup M1 x0 15 ((M1 x0 15) + 1)) (fun M2 => F_X12_lays_L3 x0 x1 K39 n (x2 + (-8)) M2)))))
    refine ev_iload_n dd_X12_lays_3 2 rfl ?_
    refine ev_if_lt 39 dd_X12_lays_4 (by decide) ?_ ?_
    · refine ev_lv (lv' := []) [] rfl ?_
      exact hK39 _
    · refine ev_aload_n dd_X12_lays_7 0 rfl ?_
      refine ev_getR gf_RX12_44 dd_X12_lays_8 hx0 (by decide) ?_
      refine ev_aload_n dd_X12_lays_11 0 rfl ?_
      refine ev_getI gf_RX12_156 dd_X12_lays_12 hx0 (by decide) ?_
      refine ev_iload_n dd_X12_lays_15 1 rfl ?_
      refine ev_iload_n dd_X12_lays_16 2 rfl ?_
      refine ev_ishr dd_X12_lays_17 ?_
      refine ev_sipush (v := 255) dd_X12_lays_18 (by decide) ?_
      refine ev_iand dd_X12_lays_21 ?_
      refine ev_iast dd_X12_lays_22 ((zg_12_14 hx0).1) ((zg_12_14 hx0).2) ?_
      refine ev_st (fun M1 => ?_)
      refine ev_aload_n dd_X12_lays_23 0 rfl ?_
      refine ev_dup dd_X12_lays_24 rfl ?_
      refine ev_getI gf_RX12_156 dd_X12_lays_25 hx0 (by decide) ?_
      refine ev_iconst (v := 1) dd_X12_lays_28 (by decide) ?_
      refine ev_iadd dd_X12_lays_29 ?_
      refine ev_putI gw_RX12_156 dd_X12_lays_30 hx0 (by decide) ?_
      refine ev_st (fun M2 => ?_)
      refine ev_iinc (j := 2) (v := (-8)) (lv' := [(0, .ref (G.2.1 + x0)), (1, .int x1), (2, .int (x2 + (-8)))]) [1, 2, 0] dd_X12_lays_33 rfl (by decide) (by decide) rfl ?_
      refine ev_goto 3 dd_X12_lays_36 (by decide) ?_
      exact ih _ _
set_option maxHeartbeats 1000000 in
set_option maxRecDepth 20000 in
theorem ct_X12_lays (l : Launch) (hl : l.stackTraces = false) (G : zG) (t : Nat) (ht : zsh t = 12) (a1 : Int32) (M : zM) : zMt l G Y_X12_lays 1 [.ref (G.2.1 + t), .int a1] M (F_X12_lays t a1 M) := by
  refine zMt_of (by decide +kernel) (Nat.le_of_ble_eq_true rfl) ?_
  show zEv l G Y_X12_lays 1 0 0 [(0, .ref (G.2.1 + t)), (1, .int a1)] [] M (F_X12_lays_L3 t a1 (fun  (M3 : zM) => zV M3) zN 24 M)
  refine ev_bipush (v := 24) dd_X12_lays_0 (by decide) ?_
  refine ev_istore_n (i := 2) (lv' := [(0, .ref (G.2.1 + t)), (1, .int a1), (2, .int 24)]) [1, 2, 0] dd_X12_lays_2 rfl (by decide) rfl ?_
  refine ct_X12_lays_L3 l hl G t ht a1 _ (fun M3 => ?_) zN _ _
  exact ev_vret dd_X12_lays_39 rfl (Nat.le_of_ble_eq_true rfl) rfl
