/-! F functions and walks, by program (gen.py, mkparts.py) -/
/-! X12_readsName -/
theorem dd_X12_readsName_0 : decode Y_X12_readsName.2.1 0 = .ok (.aload_n 0, 1) := by decide +kernel
theorem dd_X12_readsName_1 : decode Y_X12_readsName.2.1 1 = .ok (.getfield 222, 3) := by decide +kernel
theorem dd_X12_readsName_4 : decode Y_X12_readsName.2.1 4 = .ok (.bipush 8, 2) := by decide +kernel
theorem dd_X12_readsName_6 : decode Y_X12_readsName.2.1 6 = .ok (.if_icmp .ne 8, 3) := by decide +kernel
theorem dd_X12_readsName_9 : decode Y_X12_readsName.2.1 9 = .ok (.aload_n 0, 1) := by decide +kernel
theorem dd_X12_readsName_10 : decode Y_X12_readsName.2.1 10 = .ok (.iconst 2, 1) := by decide +kernel
theorem dd_X12_readsName_11 : decode Y_X12_readsName.2.1 11 = .ok (.invokevirtual 219, 3) := by decide +kernel
theorem dd_X12_readsName_14 : decode Y_X12_readsName.2.1 14 = .ok (.aload_n 0, 1) := by decide +kernel
theorem dd_X12_readsName_15 : decode Y_X12_readsName.2.1 15 = .ok (.invokevirtual 212, 3) := by decide +kernel
theorem dd_X12_readsName_18 : decode Y_X12_readsName.2.1 18 = .ok (.ifCond .ne 4, 3) := by decide +kernel
theorem dd_X12_readsName_21 : decode Y_X12_readsName.2.1 21 = .ok (.return_, 1) := by decide +kernel
theorem dd_X12_readsName_22 : decode Y_X12_readsName.2.1 22 = .ok (.aload_n 0, 1) := by decide +kernel
theorem dd_X12_readsName_23 : decode Y_X12_readsName.2.1 23 = .ok (.invokevirtual 216, 3) := by decide +kernel
theorem dd_X12_readsName_26 : decode Y_X12_readsName.2.1 26 = .ok (.aload_n 0, 1) := by decide +kernel
theorem dd_X12_readsName_27 : decode Y_X12_readsName.2.1 27 = .ok (.getfield 222, 3) := by decide +kernel
theorem dd_X12_readsName_30 : decode Y_X12_readsName.2.1 30 = .ok (.istore_n 1, 1) := by decide +kernel
theorem dd_X12_readsName_31 : decode Y_X12_readsName.2.1 31 = .ok (.aload_n 0, 1) := by decide +kernel
theorem dd_X12_readsName_32 : decode Y_X12_readsName.2.1 32 = .ok (.getfield 186, 3) := by decide +kernel
theorem dd_X12_readsName_35 : decode Y_X12_readsName.2.1 35 = .ok (.iconst 1, 1) := by decide +kernel
theorem dd_X12_readsName_36 : decode Y_X12_readsName.2.1 36 = .ok (.if_icmp .eq 11, 3) := by decide +kernel
theorem dd_X12_readsName_39 : decode Y_X12_readsName.2.1 39 = .ok (.aload_n 0, 1) := by decide +kernel
theorem dd_X12_readsName_40 : decode Y_X12_readsName.2.1 40 = .ok (.iconst 1, 1) := by decide +kernel
theorem dd_X12_readsName_41 : decode Y_X12_readsName.2.1 41 = .ok (.invokevirtual 219, 3) := by decide +kernel
theorem dd_X12_readsName_44 : decode Y_X12_readsName.2.1 44 = .ok (.goto 17, 3) := by decide +kernel
theorem dd_X12_readsName_47 : decode Y_X12_readsName.2.1 47 = .ok (.aload_n 0, 1) := by decide +kernel
theorem dd_X12_readsName_48 : decode Y_X12_readsName.2.1 48 = .ok (.getfield 196, 3) := by decide +kernel
theorem dd_X12_readsName_51 : decode Y_X12_readsName.2.1 51 = .ok (.bipush 9, 2) := by decide +kernel
theorem dd_X12_readsName_53 : decode Y_X12_readsName.2.1 53 = .ok (.if_icmp .le 8, 3) := by decide +kernel
theorem dd_X12_readsName_56 : decode Y_X12_readsName.2.1 56 = .ok (.aload_n 0, 1) := by decide +kernel
theorem dd_X12_readsName_57 : decode Y_X12_readsName.2.1 57 = .ok (.iconst 2, 1) := by decide +kernel
theorem dd_X12_readsName_58 : decode Y_X12_readsName.2.1 58 = .ok (.invokevirtual 219, 3) := by decide +kernel
theorem dd_X12_readsName_61 : decode Y_X12_readsName.2.1 61 = .ok (.iconst 0, 1) := by decide +kernel
theorem dd_X12_readsName_62 : decode Y_X12_readsName.2.1 62 = .ok (.istore_n 2, 1) := by decide +kernel
theorem dd_X12_readsName_63 : decode Y_X12_readsName.2.1 63 = .ok (.iload_n 2, 1) := by decide +kernel
theorem dd_X12_readsName_64 : decode Y_X12_readsName.2.1 64 = .ok (.iload_n 1, 1) := by decide +kernel
theorem dd_X12_readsName_65 : decode Y_X12_readsName.2.1 65 = .ok (.if_icmp .ge 29, 3) := by decide +kernel
theorem dd_X12_readsName_68 : decode Y_X12_readsName.2.1 68 = .ok (.aload_n 0, 1) := by decide +kernel
theorem dd_X12_readsName_69 : decode Y_X12_readsName.2.1 69 = .ok (.invokevirtual 212, 3) := by decide +kernel
theorem dd_X12_readsName_72 : decode Y_X12_readsName.2.1 72 = .ok (.ifCond .eq 22, 3) := by decide +kernel
theorem dd_X12_readsName_75 : decode Y_X12_readsName.2.1 75 = .ok (.aload_n 0, 1) := by decide +kernel
theorem dd_X12_readsName_76 : decode Y_X12_readsName.2.1 76 = .ok (.iload_n 2, 1) := by decide +kernel
theorem dd_X12_readsName_77 : decode Y_X12_readsName.2.1 77 = .ok (.invokevirtual 272, 3) := by decide +kernel
theorem dd_X12_readsName_80 : decode Y_X12_readsName.2.1 80 = .ok (.ifCond .eq 8, 3) := by decide +kernel
theorem dd_X12_readsName_83 : decode Y_X12_readsName.2.1 83 = .ok (.aload_n 0, 1) := by decide +kernel
theorem dd_X12_readsName_84 : decode Y_X12_readsName.2.1 84 = .ok (.iconst 4, 1) := by decide +kernel
theorem dd_X12_readsName_85 : decode Y_X12_readsName.2.1 85 = .ok (.invokevirtual 219, 3) := by decide +kernel
theorem dd_X12_readsName_88 : decode Y_X12_readsName.2.1 88 = .ok (.iinc 2 1, 3) := by decide +kernel
theorem dd_X12_readsName_91 : decode Y_X12_readsName.2.1 91 = .ok (.goto (-28), 3) := by decide +kernel
theorem dd_X12_readsName_94 : decode Y_X12_readsName.2.1 94 = .ok (.aload_n 0, 1) := by decide +kernel
theorem dd_X12_readsName_95 : decode Y_X12_readsName.2.1 95 = .ok (.invokevirtual 212, 3) := by decide +kernel
theorem dd_X12_readsName_98 : decode Y_X12_readsName.2.1 98 = .ok (.ifCond .ne 4, 3) := by decide +kernel
theorem dd_X12_readsName_101 : decode Y_X12_readsName.2.1 101 = .ok (.return_, 1) := by decide +kernel
theorem dd_X12_readsName_102 : decode Y_X12_readsName.2.1 102 = .ok (.aload_n 0, 1) := by decide +kernel
theorem dd_X12_readsName_103 : decode Y_X12_readsName.2.1 103 = .ok (.getfield 56, 3) := by decide +kernel
theorem dd_X12_readsName_106 : decode Y_X12_readsName.2.1 106 = .ok (.iload_n 1, 1) := by decide +kernel
theorem dd_X12_readsName_107 : decode Y_X12_readsName.2.1 107 = .ok (.aload_n 0, 1) := by decide +kernel
theorem dd_X12_readsName_108 : decode Y_X12_readsName.2.1 108 = .ok (.getfield 196, 3) := by decide +kernel
theorem dd_X12_readsName_111 : decode Y_X12_readsName.2.1 111 = .ok (.iastore, 1) := by decide +kernel
theorem dd_X12_readsName_112 : decode Y_X12_readsName.2.1 112 = .ok (.iconst 0, 1) := by decide +kernel
theorem dd_X12_readsName_113 : decode Y_X12_readsName.2.1 113 = .ok (.istore_n 2, 1) := by decide +kernel
theorem dd_X12_readsName_114 : decode Y_X12_readsName.2.1 114 = .ok (.iload_n 2, 1) := by decide +kernel
theorem dd_X12_readsName_115 : decode Y_X12_readsName.2.1 115 = .ok (.aload_n 0, 1) := by decide +kernel
theorem dd_X12_readsName_116 : decode Y_X12_readsName.2.1 116 = .ok (.getfield 196, 3) := by decide +kernel
theorem dd_X12_readsName_119 : decode Y_X12_readsName.2.1 119 = .ok (.if_icmp .ge 33, 3) := by decide +kernel
theorem dd_X12_readsName_122 : decode Y_X12_readsName.2.1 122 = .ok (.aload_n 0, 1) := by decide +kernel
theorem dd_X12_readsName_123 : decode Y_X12_readsName.2.1 123 = .ok (.getfield 53, 3) := by decide +kernel
theorem dd_X12_readsName_126 : decode Y_X12_readsName.2.1 126 = .ok (.bipush 9, 2) := by decide +kernel
theorem dd_X12_readsName_128 : decode Y_X12_readsName.2.1 128 = .ok (.iload_n 1, 1) := by decide +kernel
theorem dd_X12_readsName_129 : decode Y_X12_readsName.2.1 129 = .ok (.imul, 1) := by decide +kernel
theorem dd_X12_readsName_130 : decode Y_X12_readsName.2.1 130 = .ok (.iload_n 2, 1) := by decide +kernel
theorem dd_X12_readsName_131 : decode Y_X12_readsName.2.1 131 = .ok (.iadd, 1) := by decide +kernel
theorem dd_X12_readsName_132 : decode Y_X12_readsName.2.1 132 = .ok (.aload_n 0, 1) := by decide +kernel
theorem dd_X12_readsName_133 : decode Y_X12_readsName.2.1 133 = .ok (.aload_n 0, 1) := by decide +kernel
theorem dd_X12_readsName_134 : decode Y_X12_readsName.2.1 134 = .ok (.getfield 173, 3) := by decide +kernel
theorem dd_X12_readsName_137 : decode Y_X12_readsName.2.1 137 = .ok (.iload_n 2, 1) := by decide +kernel
theorem dd_X12_readsName_138 : decode Y_X12_readsName.2.1 138 = .ok (.iadd, 1) := by decide +kernel
theorem dd_X12_readsName_139 : decode Y_X12_readsName.2.1 139 = .ok (.invokevirtual 169, 3) := by decide +kernel
theorem dd_X12_readsName_142 : decode Y_X12_readsName.2.1 142 = .ok (.bipush 96, 2) := by decide +kernel
theorem dd_X12_readsName_144 : decode Y_X12_readsName.2.1 144 = .ok (.isub, 1) := by decide +kernel
theorem dd_X12_readsName_145 : decode Y_X12_readsName.2.1 145 = .ok (.iastore, 1) := by decide +kernel
theorem dd_X12_readsName_146 : decode Y_X12_readsName.2.1 146 = .ok (.iinc 2 1, 3) := by decide +kernel
theorem dd_X12_readsName_149 : decode Y_X12_readsName.2.1 149 = .ok (.goto (-35), 3) := by decide +kernel
theorem dd_X12_readsName_152 : decode Y_X12_readsName.2.1 152 = .ok (.aload_n 0, 1) := by decide +kernel
theorem dd_X12_readsName_153 : decode Y_X12_readsName.2.1 153 = .ok (.invokevirtual 216, 3) := by decide +kernel
theorem dd_X12_readsName_156 : decode Y_X12_readsName.2.1 156 = .ok (.aload_n 0, 1) := by decide +kernel
theorem dd_X12_readsName_157 : decode Y_X12_readsName.2.1 157 = .ok (.getfield 59, 3) := by decide +kernel
theorem dd_X12_readsName_160 : decode Y_X12_readsName.2.1 160 = .ok (.iload_n 1, 1) := by decide +kernel
theorem dd_X12_readsName_161 : decode Y_X12_readsName.2.1 161 = .ok (.aload_n 0, 1) := by decide +kernel
theorem dd_X12_readsName_162 : decode Y_X12_readsName.2.1 162 = .ok (.iconst 0, 1) := by decide +kernel
theorem dd_X12_readsName_163 : decode Y_X12_readsName.2.1 163 = .ok (.bipush 60, 2) := by decide +kernel
theorem dd_X12_readsName_165 : decode Y_X12_readsName.2.1 165 = .ok (.invokevirtual 275, 3) := by decide +kernel
theorem dd_X12_readsName_168 : decode Y_X12_readsName.2.1 168 = .ok (.iastore, 1) := by decide +kernel
theorem dd_X12_readsName_169 : decode Y_X12_readsName.2.1 169 = .ok (.aload_n 0, 1) := by decide +kernel
theorem dd_X12_readsName_170 : decode Y_X12_readsName.2.1 170 = .ok (.getfield 62, 3) := by decide +kernel
theorem dd_X12_readsName_173 : decode Y_X12_readsName.2.1 173 = .ok (.iload_n 1, 1) := by decide +kernel
theorem dd_X12_readsName_174 : decode Y_X12_readsName.2.1 174 = .ok (.aload_n 0, 1) := by decide +kernel
theorem dd_X12_readsName_175 : decode Y_X12_readsName.2.1 175 = .ok (.iconst 0, 1) := by decide +kernel
theorem dd_X12_readsName_176 : decode Y_X12_readsName.2.1 176 = .ok (.bipush 60, 2) := by decide +kernel
theorem dd_X12_readsName_178 : decode Y_X12_readsName.2.1 178 = .ok (.invokevirtual 275, 3) := by decide +kernel
theorem dd_X12_readsName_181 : decode Y_X12_readsName.2.1 181 = .ok (.iastore, 1) := by decide +kernel
theorem dd_X12_readsName_182 : decode Y_X12_readsName.2.1 182 = .ok (.aload_n 0, 1) := by decide +kernel
theorem dd_X12_readsName_183 : decode Y_X12_readsName.2.1 183 = .ok (.invokevirtual 212, 3) := by decide +kernel
theorem dd_X12_readsName_186 : decode Y_X12_readsName.2.1 186 = .ok (.ifCond .eq 10, 3) := by decide +kernel
theorem dd_X12_readsName_189 : decode Y_X12_readsName.2.1 189 = .ok (.aload_n 0, 1) := by decide +kernel
theorem dd_X12_readsName_190 : decode Y_X12_readsName.2.1 190 = .ok (.invokevirtual 240, 3) := by decide +kernel
theorem dd_X12_readsName_193 : decode Y_X12_readsName.2.1 193 = .ok (.goto 4, 3) := by decide +kernel
theorem dd_X12_readsName_196 : decode Y_X12_readsName.2.1 196 = .ok (.iconst (-1), 1) := by decide +kernel
theorem dd_X12_readsName_197 : decode Y_X12_readsName.2.1 197 = .ok (.istore_n 2, 1) := by decide +kernel
theorem dd_X12_readsName_198 : decode Y_X12_readsName.2.1 198 = .ok (.aload_n 0, 1) := by decide +kernel
theorem dd_X12_readsName_199 : decode Y_X12_readsName.2.1 199 = .ok (.getfield 65, 3) := by decide +kernel
theorem dd_X12_readsName_202 : decode Y_X12_readsName.2.1 202 = .ok (.iload_n 1, 1) := by decide +kernel
theorem dd_X12_readsName_203 : decode Y_X12_readsName.2.1 203 = .ok (.iload_n 2, 1) := by decide +kernel
theorem dd_X12_readsName_204 : decode Y_X12_readsName.2.1 204 = .ok (.bipush 8, 2) := by decide +kernel
theorem dd_X12_readsName_206 : decode Y_X12_readsName.2.1 206 = .ok (.if_icmp .ne 7, 3) := by decide +kernel
theorem dd_X12_readsName_209 : decode Y_X12_readsName.2.1 209 = .ok (.iconst 1, 1) := by decide +kernel
theorem dd_X12_readsName_210 : decode Y_X12_readsName.2.1 210 = .ok (.goto 14, 3) := by decide +kernel
theorem dd_X12_readsName_213 : decode Y_X12_readsName.2.1 213 = .ok (.iload_n 2, 1) := by decide +kernel
theorem dd_X12_readsName_214 : decode Y_X12_readsName.2.1 214 = .ok (.bipush 9, 2) := by decide +kernel
theorem dd_X12_readsName_216 : decode Y_X12_readsName.2.1 216 = .ok (.if_icmp .ne 7, 3) := by decide +kernel
theorem dd_X12_readsName_219 : decode Y_X12_readsName.2.1 219 = .ok (.iconst 2, 1) := by decide +kernel
theorem dd_X12_readsName_220 : decode Y_X12_readsName.2.1 220 = .ok (.goto 4, 3) := by decide +kernel
theorem dd_X12_readsName_223 : decode Y_X12_readsName.2.1 223 = .ok (.iconst 0, 1) := by decide +kernel
theorem dd_X12_readsName_224 : decode Y_X12_readsName.2.1 224 = .ok (.iastore, 1) := by decide +kernel
theorem dd_X12_readsName_225 : decode Y_X12_readsName.2.1 225 = .ok (.aload_n 0, 1) := by decide +kernel
theorem dd_X12_readsName_226 : decode Y_X12_readsName.2.1 226 = .ok (.getfield 65, 3) := by decide +kernel
theorem dd_X12_readsName_229 : decode Y_X12_readsName.2.1 229 = .ok (.iload_n 1, 1) := by decide +kernel
theorem dd_X12_readsName_230 : decode Y_X12_readsName.2.1 230 = .ok (.iaload, 1) := by decide +kernel
theorem dd_X12_readsName_231 : decode Y_X12_readsName.2.1 231 = .ok (.ifCond .le 7, 3) := by decide +kernel
theorem dd_X12_readsName_234 : decode Y_X12_readsName.2.1 234 = .ok (.aload_n 0, 1) := by decide +kernel
theorem dd_X12_readsName_235 : decode Y_X12_readsName.2.1 235 = .ok (.invokevirtual 216, 3) := by decide +kernel
theorem dd_X12_readsName_238 : decode Y_X12_readsName.2.1 238 = .ok (.aload_n 0, 1) := by decide +kernel
theorem dd_X12_readsName_239 : decode Y_X12_readsName.2.1 239 = .ok (.invokevirtual 212, 3) := by decide +kernel
theorem dd_X12_readsName_242 : decode Y_X12_readsName.2.1 242 = .ok (.ifCond .eq 13, 3) := by decide +kernel
theorem dd_X12_readsName_245 : decode Y_X12_readsName.2.1 245 = .ok (.aload_n 0, 1) := by decide +kernel
theorem dd_X12_readsName_246 : decode Y_X12_readsName.2.1 246 = .ok (.dup, 1) := by decide +kernel
theorem dd_X12_readsName_247 : decode Y_X12_readsName.2.1 247 = .ok (.getfield 222, 3) := by decide +kernel
theorem dd_X12_readsName_250 : decode Y_X12_readsName.2.1 250 = .ok (.iconst 1, 1) := by decide +kernel
theorem dd_X12_readsName_251 : decode Y_X12_readsName.2.1 251 = .ok (.iadd, 1) := by decide +kernel
theorem dd_X12_readsName_252 : decode Y_X12_readsName.2.1 252 = .ok (.putfield 222, 3) := by decide +kernel
theorem dd_X12_readsName_255 : decode Y_X12_readsName.2.1 255 = .ok (.return_, 1) := by decide +kernel
def F_X12_readsName_L63 (x0 : Nat) (x1 : Int32) (K94 : zM → zO) : Nat → Int32 → zM → zO
  | 0, _, _ => none
  | n + 1, x2, M => zit (x1 ≤ x2) (K94 M) (zbI (F_X12_isGood x0 M) (fun r2 M8 => zit (r2 = 0) (K94 M8) (zbI (F_X12_isWordOf x0 x2 M8) (fun r3 M9 => zjo (fun  (M11 : zM) => F_X12_readsName_L63 x0 x1 K94 n (x2 + 1) M11) (fun (k3 : zM → zO) => zit (r3 = 0) (k3 M9) (zbV (F_X12_wrong x0 4 M9) (fun M10 => k3 M10)))))))
def F_X12_readsName_L114 (x0 : Nat) (x1 : Int32) (K152 : zM → zO) : Nat → Int32 → zM → zO
  | 0, _, _ => none
  | n + 1, x2, M => zit ((M x0 23) ≤ x2) (K152 M) (zbI (F_X12_byteAt x0 ((M x0 22) + x2) M) (fun r5 M15 => zck (zin ((9 * x1) + x2) 72) (zst (zup M15 (zgr x0 36) (zix ((9 * x1) + x2)) (r5 - 96)) (fun M16 => F_X12_readsName_L114 x0 x1 K152 n (x2 + 1) M16))))
def F_X12_readsName (t : Nat) (M : zM) : zO := zjo (fun  (M2 : zM) => zbI (F_X12_isGood t M2) (fun r1 M3 => zit (r1 = 0) (zV M3) (zbV (F_X12_goes t M3) (fun M4 => zlt (M4 t 27) (fun v1 => zjo (fun  (M7 : zM) => F_X12_readsName_L63 t v1 (fun  (M12 : zM) => zbI (F_X12_isGood t M12) (fun r4 M13 => zit (r4 = 0) (zV M13) (zck (zin v1 8) (zst (zup M13 (zgr t 37) (zix v1) (M13 t 23)) (fun M14 => F_X12_readsName_L114 t v1 (fun  (M17 : zM) => zbV (F_X12_goes t M17) (fun M18 => zbI (F_X12_number t 0 60 M18) (fun r6 M19 => zck (zin v1 8) (zst (zup M19 (zgr t 38) (zix v1) r6) (fun M20 => zbI (F_X12_number t 0 60 M20) (fun r7 M21 => zck (zin v1 8) (zst (zup M21 (zgr t 39) (zix v1) r7) (fun M22 => zbI (F_X12_isGood t M22) (fun r8 M23 => zjo (fun (w1 : Int32) (M25 : zM) => zjo (fun (w2 : Int32) (M26 : zM) => zck (zin v1 8) (zst (zup M26 (zgr t 40) (zix v1) w2) (fun M27 => zck (zin v1 8) (zjo (fun  (M29 : zM) => zbI (F_X12_isGood t M29) (fun r10 M30 => zjo (fun  (M32 : zM) => zV M32) (fun (k7 : zM → zO) => zit (r10 = 0) (k7 M30) (zst (zup M30 t 27 ((M30 t 27) + 1)) (fun M31 => k7 M31))))) (fun (k6 : zM → zO) => zit ((M27 (zgr t 40) (zix v1)) ≤ 0) (k6 M27) (zbV (F_X12_goes t M27) (fun M28 => k6 M28))))))) (fun (k5 : Int32 → zM → zO) => zit (w1 = 8) (k5 1 M25) (zit (w1 = 9) (k5 2 M25) (k5 0 M25)))) (fun (k4 : Int32 → zM → zO) => zit (r8 = 0) (k4 (-1) M23) (zbI (F_X12_knownWord t M23) (fun r9 M24 => k4 r9 M24)))))))))))) zN 0 M14))))) zN 0 M7) (fun (k2 : zM → zO) => zit ((M4 t 21) = 1) (zit ((M4 t 23) ≤ 9) (k2 M4) (zbV (F_X12_wrong t 2 M4) (fun M5 => k2 M5))) (zbV (F_X12_wrong t 1 M4) (fun M6 => k2 M6)))))))) (fun (k1 : zM → zO) => zit ((M t 27) = 8) (zbV (F_X12_wrong t 2 M) (fun M1 => k1 M1)) (k1 M))
set_option maxHeartbeats 1000000 in
set_option maxRecDepth 20000 in
theorem ct_X12_readsName_L63 (l : Launch) (hl : l.stackTraces = false) (G : zG) (x0 : Nat) (hx0 : zsh x0 = 12) (x1 : Int32) (K94 : zM → zO) (hK94 : ∀  (M : zM), zEv l G Y_X12_readsName 4 0 94 [(0, .ref (G.2.1 + x0)), (1, .int x1)] [] M (K94 M)) : ∀ (n : Nat) (x2 : Int32) (M : zM), zEv l G Y_X12_readsName 4 0 63 [(0, .ref (G.2.1 + x0)), (1, .int x1), (2, .int x2)] [] M (F_X12_readsName_L63 x0 x1 K94 n x2 M) := by
  intro n
  induction n with
  | zero => intro x2 M; exact ev_none
  | succ n ih =>
    intro x2 M
    show zEv l G Y_X12_readsName 4 0 63 [(0, .ref (G.2.1 + x0)), (1, .int x1), (2, .int x2)] [] M (zit (x1 ≤ x2) (K94 M) (zbI (F_X12_isGood x0 M) (fun r2 M8 => zit (r2 = 0) (K94 M8) (zbI (F_X12_isWordOf x0 x2 M8) (fun r3 M9 => zjo (fun  (M11 : zM) => F_X12_readsName_L63 x0 x1 K94 n (x2 + 1) M11) (fun (k3 : zM → zO) => zit (r3 = 0) (k3 M9) (zbV (F_X12_wrong x0 4 M9) (fun M10 => k3 M10))))))))
    refine ev_iload_n dd_X12_readsName_63 2 rfl ?_
    refine ev_iload_n dd_X12_readsName_64 1 rfl ?_
    refine ev_icmp_ge 94 dd_X12_readsName_65 (by decide) ?_ ?_
    · refine ev_lv (lv' := [(0, .ref (G.2.1 + x0)), (1, .int x1)]) [0, 1] rfl ?_
      exact hK94 _
    · refine ev_aload_n dd_X12_readsName_68 0 rfl ?_
      refine ev_callVI (As := []) cl_RX12_212 (ct_X12_isGood l hl G x0 hx0 M) dd_X12_readsName_69 hx0 (by decide) (Nat.le_of_ble_eq_true rfl) (Nat.le_of_ble_eq_true rfl) rfl rfl (fun r2 M8 => ?_)
      refine ev_if_eq 94 dd_X12_readsName_72 (by decide) ?_ ?_
      · refine ev_lv (lv' := [(0, .ref (G.2.1 + x0)), (1, .int x1)]) [0, 1] rfl ?_
        exact hK94 _
      · refine ev_aload_n dd_X12_readsName_75 0 rfl ?_
        refine ev_iload_n dd_X12_readsName_76 2 rfl ?_
        refine ev_callVI (As := [.int x2]) cl_RX12_272 (ct_X12_isWordOf l hl G x0 hx0 x2 M8) dd_X12_readsName_77 hx0 (by decide) (Nat.le_of_ble_eq_true rfl) (Nat.le_of_ble_eq_true rfl) rfl rfl (fun r3 M9 => ?_)
        refine ev_jo (fun (k3 : zM → zO) => ∀  (M11 : zM), zEv l G Y_X12_readsName 4 0 88 [(0, .ref (G.2.1 + x0)), (1, .int x1), (2, .int x2)] [] M11 (k3 M11)) ?_ (fun k3 hk3 => ?_)
        · intro M11
          refine ev_iinc (j := 2) (v := 1) (lv' := [(0, .ref (G.2.1 + x0)), (1, .int x1), (2, .int (x2 + 1))]) [1, 2, 0] dd_X12_readsName_88 rfl (by decide) (by decide) rfl ?_
          refine ev_goto 63 dd_X12_readsName_91 (by decide) ?_
          exact ih _ _
        · refine ev_if_eq 88 dd_X12_readsName_80 (by decide) ?_ ?_
          · exact hk3 _
          · refine ev_aload_n dd_X12_readsName_83 0 rfl ?_
            refine ev_iconst (v := 4) dd_X12_readsName_84 (by decide) ?_
            refine ev_callVV (As := [.int 4]) cl_RX12_219 (ct_X12_wrong l hl G x0 hx0 4 M9) dd_X12_readsName_85 hx0 (by decide) (Nat.le_of_ble_eq_true rfl) (Nat.le_of_ble_eq_true rfl) rfl rfl (fun M10 => ?_)
            exact hk3 _
set_option maxHeartbeats 1000000 in
set_option maxRecDepth 20000 in
theorem ct_X12_readsName_L114 (l : Launch) (hl : l.stackTraces = false) (G : zG) (x0 : Nat) (hx0 : zsh x0 = 12) (x1 : Int32) (K152 : zM → zO) (hK152 : ∀  (M : zM), zEv l G Y_X12_readsName 4 0 152 [(0, .ref (G.2.1 + x0)), (1, .int x1)] [] M (K152 M)) : ∀ (n : Nat) (x2 : Int32) (M : zM), zEv l G Y_X12_readsName 4 0 114 [(0, .ref (G.2.1 + x0)), (1, .int x1), (2, .int x2)] [] M (F_X12_readsName_L114 x0 x1 K152 n x2 M) := by
  intro n
  induction n with
  | zero => intro x2 M; exact ev_none
  | succ n ih =>
    intro x2 M
    show zEv l G Y_X12_readsName 4 0 114 [(0, .ref (G.2.1 + x0)), (1, .int x1), (2, .int x2)] [] M (zit ((M x0 23) ≤ x2) (K152 M) (zbI (F_X12_byteAt x0 ((M x0 22) + x2) M) (fun r5 M15 => zck (zin ((9 * x1) + x2) 72) (zst (zup M15 (zgr x0 36) (zix ((9 * x1) + x2)) (r5 - 96)) (fun M16 => F_X12_readsName_L114 x0 x1 K152 n (x2 + 1) M16)))))
    refine ev_iload_n dd_X12_readsName_114 2 rfl ?_
    refine ev_aload_n dd_X12_readsName_115 0 rfl ?_
    refine ev_getI gf_RX12_196 dd_X12_readsName_116 hx0 (by decide) ?_
    refine ev_icmp_ge 152 dd_X12_readsName_119 (by decide) ?_ ?_
    · refine ev_lv (lv' := [(0, .ref (G.2.1 + x0)), (1, .int x1)]) [0, 1] rfl ?_
      exact hK152 _
    · refine ev_aload_n dd_X12_readsName_122 0 rfl ?_
      refine ev_getR gf_RX12_53 dd_X12_readsName_123 hx0 (by decide) ?_
      refine ev_bipush (v := 9) dd_X12_readsName_126 (by decide) ?_
      refine ev_iload_n dd_X12_readsName_128 1 rfl ?_
      refine ev_imul dd_X12_readsName_129 ?_
      refine ev_iload_n dd_X12_readsName_130 2 rfl ?_
      refine ev_iadd dd_X12_readsName_131 ?_
      refine ev_aload_n dd_X12_readsName_132 0 rfl ?_
      refine ev_aload_n dd_X12_readsName_133 0 rfl ?_
      refine ev_getI gf_RX12_173 dd_X12_readsName_134 hx0 (by decide) ?_
      refine ev_iload_n dd_X12_readsName_137 2 rfl ?_
      refine ev_iadd dd_X12_readsName_138 ?_
      refine ev_callVI (As := [.int ((M x0 22) + x2)]) cl_RX12_169 (ct_X12_byteAt l hl G x0 hx0 ((M x0 22) + x2) M) dd_X12_readsName_139 hx0 (by decide) (Nat.le_of_ble_eq_true rfl) (Nat.le_of_ble_eq_true rfl) rfl rfl (fun r5 M15 => ?_)
      refine ev_bipush (v := 96) dd_X12_readsName_142 (by decide) ?_
      refine ev_isub dd_X12_readsName_144 ?_
      refine ev_iast dd_X12_readsName_145 ((zg_12_36 hx0).1) ((zg_12_36 hx0).2) ?_
      refine ev_st (fun M16 => ?_)
      refine ev_iinc (j := 2) (v := 1) (lv' := [(0, .ref (G.2.1 + x0)), (1, .int x1), (2, .int (x2 + 1))]) [1, 2, 0] dd_X12_readsName_146 rfl (by decide) (by decide) rfl ?_
      refine ev_goto 114 dd_X12_readsName_149 (by decide) ?_
      exact ih _ _
set_option maxHeartbeats 1000000 in
set_option maxRecDepth 20000 in
theorem ct_X12_readsName (l : Launch) (hl : l.stackTraces = false) (G : zG) (t : Nat) (ht : zsh t = 12) (M : zM) : zMt l G Y_X12_readsName 4 [.ref (G.2.1 + t)] M (F_X12_readsName t M) := by
  refine zMt_of (by decide +kernel) (Nat.le_of_ble_eq_true rfl) ?_
  show zEv l G Y_X12_readsName 4 0 0 [(0, .ref (G.2.1 + t))] [] M (zjo (fun  (M2 : zM) => zbI (F_X12_isGood t M2) (fun r1 M3 => zit (r1 = 0) (zV M3) (zbV (F_X12_goes t M3) (fun M4 => zlt (M4 t 27) (fun v1 => zjo (fun  (M7 : zM) => F_X12_readsName_L63 t v1 (fun  (M12 : zM) => zbI (F_X12_isGood t M12) (fun r4 M13 => zit (r4 = 0) (zV M13) (zck (zin v1 8) (zst (zup M13 (zgr t 37) (zix v1) (M13 t 23)) (fun M14 => F_X12_readsName_L114 t v1 (fun  (M17 : zM) => zbV (F_X12_goes t M17) (fun M18 => zbI (F_X12_number t 0 60 M18) (fun r6 M19 => zck (zin v1 8) (zst (zup M19 (zgr t 38) (zix v1) r6) (fun M20 => zbI (F_X12_number t 0 60 M20) (fun r7 M21 => zck (zin v1 8) (zst (zup M21 (zgr t 39) (zix v1) r7) (fun M22 => zbI (F_X12_isGood t M22) (fun r8 M23 => zjo (fun (w1 : Int32) (M25 : zM) => zjo (fun (w2 : Int32) (M26 : zM) => zck (zin v1 8) (zst (zup M26 (zgr t 40) (zix v1) w2) (fun M27 => zck (zin v1 8) (zjo (fun  (M29 : zM) => zbI (F_X12_isGood t M29) (fun r10 M30 => zjo (fun  (M32 : zM) => zV M32) (fun (k7 : zM → zO) => zit (r10 = 0) (k7 M30) (zst (zup M30 t 27 ((M30 t 27) + 1)) (fun M31 => k7 M31))))) (fun (k6 : zM → zO) => zit ((M27 (zgr t 40) (zix v1)) ≤ 0) (k6 M27) (zbV (F_X12_goes t M27) (fun M28 => k6 M28))))))) (fun (k5 : Int32 → zM → zO) => zit (w1 = 8) (k5 1 M25) (zit (w1 = 9) (k5 2 M25) (k5 0 M25)))) (fun (k4 : Int32 → zM → zO) => zit (r8 = 0) (k4 (-1) M23) (zbI (F_X12_knownWord t M23) (fun r9 M24 => k4 r9 M24)))))))))))) zN 0 M14))))) zN 0 M7) (fun (k2 : zM → zO) => zit ((M4 t 21) = 1) (zit ((M4 t 23) ≤ 9) (k2 M4) (zbV (F_X12_wrong t 2 M4) (fun M5 => k2 M5))) (zbV (F_X12_wrong t 1 M4) (fun M6 => k2 M6)))))))) (fun (k1 : zM → zO) => zit ((M t 27) = 8) (zbV (F_X12_wrong t 2 M) (fun M1 => k1 M1)) (k1 M)))
  refine ev_aload_n dd_X12_readsName_0 0 rfl ?_
  refine ev_getI gf_RX12_222 dd_X12_readsName_1 ht (by decide) ?_
  refine ev_bipush (v := 8) dd_X12_readsName_4 (by decide) ?_
  refine ev_jo (fun (k1 : zM → zO) => ∀  (M2 : zM), zEv l G Y_X12_readsName 4 0 14 [(0, .ref (G.2.1 + t))] [] M2 (k1 M2)) ?_ (fun k1 hk1 => ?_)
  · intro M2
    refine ev_aload_n dd_X12_readsName_14 0 rfl ?_
    refine ev_callVI (As := []) cl_RX12_212 (ct_X12_isGood l hl G t ht M2) dd_X12_readsName_15 ht (by decide) (Nat.le_of_ble_eq_true rfl) (Nat.le_of_ble_eq_true rfl) rfl rfl (fun r1 M3 => ?_)
    refine ev_if_ne 22 dd_X12_readsName_18 (by decide) ?_ ?_
    · refine ev_aload_n dd_X12_readsName_22 0 rfl ?_
      refine ev_callVV (As := []) cl_RX12_216 (ct_X12_goes l hl G t ht M3) dd_X12_readsName_23 ht (by decide) (Nat.le_of_ble_eq_true rfl) (Nat.le_of_ble_eq_true rfl) rfl rfl (fun M4 => ?_)
      refine ev_aload_n dd_X12_readsName_26 0 rfl ?_
      refine ev_getI gf_RX12_222 dd_X12_readsName_27 ht (by decide) ?_
      refine ev_topi (fun v1 => ?_)
      refine ev_istore_n (i := 1) (lv' := [(0, .ref (G.2.1 + t)), (1, .int v1)]) [1, 0] dd_X12_readsName_30 rfl (by decide) rfl ?_
      refine ev_aload_n dd_X12_readsName_31 0 rfl ?_
      refine ev_getI gf_RX12_186 dd_X12_readsName_32 ht (by decide) ?_
      refine ev_iconst (v := 1) dd_X12_readsName_35 (by decide) ?_
      refine ev_jo (fun (k2 : zM → zO) => ∀  (M7 : zM), zEv l G Y_X12_readsName 4 0 61 [(0, .ref (G.2.1 + t)), (1, .int v1)] [] M7 (k2 M7)) ?_ (fun k2 hk2 => ?_)
      · intro M7
        refine ev_iconst (v := 0) dd_X12_readsName_61 (by decide) ?_
        refine ev_istore_n (i := 2) (lv' := [(0, .ref (G.2.1 + t)), (1, .int v1), (2, .int 0)]) [1, 2, 0] dd_X12_readsName_62 rfl (by decide) rfl ?_
        refine ct_X12_readsName_L63 l hl G t ht v1 _ (fun M12 => ?_) zN _ _
        refine ev_aload_n dd_X12_readsName_94 0 rfl ?_
        refine ev_callVI (As := []) cl_RX12_212 (ct_X12_isGood l hl G t ht M12) dd_X12_readsName_95 ht (by decide) (Nat.le_of_ble_eq_true rfl) (Nat.le_of_ble_eq_true rfl) rfl rfl (fun r4 M13 => ?_)
        refine ev_if_ne 102 dd_X12_readsName_98 (by decide) ?_ ?_
        · refine ev_aload_n dd_X12_readsName_102 0 rfl ?_
          refine ev_getR gf_RX12_56 dd_X12_readsName_103 ht (by decide) ?_
          refine ev_iload_n dd_X12_readsName_106 1 rfl ?_
          refine ev_aload_n dd_X12_readsName_107 0 rfl ?_
          refine ev_getI gf_RX12_196 dd_X12_readsName_108 ht (by decide) ?_
          refine ev_iast dd_X12_readsName_111 ((zg_12_37 ht).1) ((zg_12_37 ht).2) ?_
          refine ev_st (fun M14 => ?_)
          refine ev_iconst (v := 0) dd_X12_readsName_112 (by decide) ?_
          refine ev_istore_n (i := 2) (lv' := [(0, .ref (G.2.1 + t)), (1, .int v1), (2, .int 0)]) [1, 2, 0] dd_X12_readsName_113 rfl (by decide) rfl ?_
          refine ct_X12_readsName_L114 l hl G t ht v1 _ (fun M17 => ?_) zN _ _
          refine ev_aload_n dd_X12_readsName_152 0 rfl ?_
          refine ev_callVV (As := []) cl_RX12_216 (ct_X12_goes l hl G t ht M17) dd_X12_readsName_153 ht (by decide) (Nat.le_of_ble_eq_true rfl) (Nat.le_of_ble_eq_true rfl) rfl rfl (fun M18 => ?_)
          refine ev_aload_n dd_X12_readsName_156 0 rfl ?_
          refine ev_getR gf_RX12_59 dd_X12_readsName_157 ht (by decide) ?_
          refine ev_iload_n dd_X12_readsName_160 1 rfl ?_
          refine ev_aload_n dd_X12_readsName_161 0 rfl ?_
          refine ev_iconst (v := 0) dd_X12_readsName_162 (by decide) ?_
          refine ev_bipush (v := 60) dd_X12_readsName_163 (by decide) ?_
          refine ev_callVI (As := [.int 0, .int 60]) cl_RX12_275 (ct_X12_number l hl G t ht 0 60 M18) dd_X12_readsName_165 ht (by decide) (Nat.le_of_ble_eq_true rfl) (Nat.le_of_ble_eq_true rfl) rfl rfl (fun r6 M19 => ?_)
          refine ev_iast dd_X12_readsName_168 ((zg_12_38 ht).1) ((zg_12_38 ht).2) ?_
          refine ev_st (fun M20 => ?_)
          refine ev_aload_n dd_X12_readsName_169 0 rfl ?_
          refine ev_getR gf_RX12_62 dd_X12_readsName_170 ht (by decide) ?_
          refine ev_iload_n dd_X12_readsName_173 1 rfl ?_
          refine ev_aload_n dd_X12_readsName_174 0 rfl ?_
          refine ev_iconst (v := 0) dd_X12_readsName_175 (by decide) ?_
          refine ev_bipush (v := 60) dd_X12_readsName_176 (by decide) ?_
          refine ev_callVI (As := [.int 0, .int 60]) cl_RX12_275 (ct_X12_number l hl G t ht 0 60 M20) dd_X12_readsName_178 ht (by decide) (Nat.le_of_ble_eq_true rfl) (Nat.le_of_ble_eq_true rfl) rfl rfl (fun r7 M21 => ?_)
          refine ev_iast dd_X12_readsName_181 ((zg_12_39 ht).1) ((zg_12_39 ht).2) ?_
          refine ev_st (fun M22 => ?_)
          refine ev_aload_n dd_X12_readsName_182 0 rfl ?_
          refine ev_callVI (As := []) cl_RX12_212 (ct_X12_isGood l hl G t ht M22) dd_X12_readsName_183 ht (by decide) (Nat.le_of_ble_eq_true rfl) (Nat.le_of_ble_eq_true rfl) rfl rfl (fun r8 M23 => ?_)
          refine ev_jo (fun (k4 : Int32 → zM → zO) => ∀ (w1 : Int32) (M25 : zM), zEv l G Y_X12_readsName 4 0 197 [(0, .ref (G.2.1 + t)), (1, .int v1)] [.int w1] M25 (k4 w1 M25)) ?_ (fun k4 hk4 => ?_)
          · intro w1 M25
            refine ev_istore_n (i := 2) (lv' := [(0, .ref (G.2.1 + t)), (1, .int v1), (2, .int w1)]) [1, 2, 0] dd_X12_readsName_197 rfl (by decide) rfl ?_
            refine ev_aload_n dd_X12_readsName_198 0 rfl ?_
            refine ev_getR gf_RX12_65 dd_X12_readsName_199 ht (by decide) ?_
            refine ev_iload_n dd_X12_readsName_202 1 rfl ?_
            refine ev_iload_n dd_X12_readsName_203 2 rfl ?_
            refine ev_bipush (v := 8) dd_X12_readsName_204 (by decide) ?_
            refine ev_jo (fun (k5 : Int32 → zM → zO) => ∀ (w2 : Int32) (M26 : zM), zEv l G Y_X12_readsName 4 0 224 [(0, .ref (G.2.1 + t)), (1, .int v1)] [.int w2, .int v1, .ref (G.2.1 + (zgr t 40))] M26 (k5 w2 M26)) ?_ (fun k5 hk5 => ?_)
            · intro w2 M26
              refine ev_iast dd_X12_readsName_224 ((zg_12_40 ht).1) ((zg_12_40 ht).2) ?_
              refine ev_st (fun M27 => ?_)
              refine ev_aload_n dd_X12_readsName_225 0 rfl ?_
              refine ev_getR gf_RX12_65 dd_X12_readsName_226 ht (by decide) ?_
              refine ev_iload_n dd_X12_readsName_229 1 rfl ?_
              refine ev_lv (lv' := [(0, .ref (G.2.1 + t))]) [0] rfl ?_
              refine ev_iald dd_X12_readsName_230 ((zg_12_40 ht).1) ((zg_12_40 ht).2) ?_
              refine ev_jo (fun (k6 : zM → zO) => ∀  (M29 : zM), zEv l G Y_X12_readsName 4 0 238 [(0, .ref (G.2.1 + t))] [] M29 (k6 M29)) ?_ (fun k6 hk6 => ?_)
              · intro M29
                refine ev_aload_n dd_X12_readsName_238 0 rfl ?_
                refine ev_callVI (As := []) cl_RX12_212 (ct_X12_isGood l hl G t ht M29) dd_X12_readsName_239 ht (by decide) (Nat.le_of_ble_eq_true rfl) (Nat.le_of_ble_eq_true rfl) rfl rfl (fun r10 M30 => ?_)
                refine ev_jo (fun (k7 : zM → zO) => ∀  (M32 : zM), zEv l G Y_X12_readsName 4 0 255 [] [] M32 (k7 M32)) ?_ (fun k7 hk7 => ?_)
                · intro M32
                  exact ev_vret dd_X12_readsName_255 rfl (Nat.le_of_ble_eq_true rfl) rfl
                · refine ev_if_eq 255 dd_X12_readsName_242 (by decide) ?_ ?_
                  · refine ev_lv (lv' := []) [] rfl ?_
                    exact hk7 _
                  · refine ev_aload_n dd_X12_readsName_245 0 rfl ?_
                    refine ev_lv (lv' := []) [] rfl ?_
                    refine ev_dup dd_X12_readsName_246 rfl ?_
                    refine ev_getI gf_RX12_222 dd_X12_readsName_247 ht (by decide) ?_
                    refine ev_iconst (v := 1) dd_X12_readsName_250 (by decide) ?_
                    refine ev_iadd dd_X12_readsName_251 ?_
                    refine ev_putI gw_RX12_222 dd_X12_readsName_252 ht (by decide) ?_
                    refine ev_st (fun M31 => ?_)
                    exact hk7 _
              · refine ev_if_le 238 dd_X12_readsName_231 (by decide) ?_ ?_
                · exact hk6 _
                · refine ev_aload_n dd_X12_readsName_234 0 rfl ?_
                  refine ev_callVV (As := []) cl_RX12_216 (ct_X12_goes l hl G t ht M27) dd_X12_readsName_235 ht (by decide) (Nat.le_of_ble_eq_true rfl) (Nat.le_of_ble_eq_true rfl) rfl rfl (fun M28 => ?_)
                  exact hk6 _
            · refine ev_icmp_ne 213 dd_X12_readsName_206 (by decide) ?_ ?_
              · refine ev_iload_n dd_X12_readsName_213 2 rfl ?_
                refine ev_lv (lv' := [(0, .ref (G.2.1 + t)), (1, .int v1)]) [0, 1] rfl ?_
                refine ev_bipush (v := 9) dd_X12_readsName_214 (by decide) ?_
                refine ev_icmp_ne 223 dd_X12_readsName_216 (by decide) ?_ ?_
                · refine ev_iconst (v := 0) dd_X12_readsName_223 (by decide) ?_
                  exact hk5 _ _
                · refine ev_iconst (v := 2) dd_X12_readsName_219 (by decide) ?_
                  refine ev_goto 224 dd_X12_readsName_220 (by decide) ?_
                  exact hk5 _ _
              · refine ev_lv (lv' := [(0, .ref (G.2.1 + t)), (1, .int v1)]) [0, 1] rfl ?_
                refine ev_iconst (v := 1) dd_X12_readsName_209 (by decide) ?_
                refine ev_goto 224 dd_X12_readsName_210 (by decide) ?_
                exact hk5 _ _
          · refine ev_if_eq 196 dd_X12_readsName_186 (by decide) ?_ ?_
            · refine ev_iconst (v := (-1)) dd_X12_readsName_196 (by decide) ?_
              exact hk4 _ _
            · refine ev_aload_n dd_X12_readsName_189 0 rfl ?_
              refine ev_callVI (As := []) cl_RX12_240 (ct_X12_knownWord l hl G t ht M23) dd_X12_readsName_190 ht (by decide) (Nat.le_of_ble_eq_true rfl) (Nat.le_of_ble_eq_true rfl) rfl rfl (fun r9 M24 => ?_)
              refine ev_goto 197 dd_X12_readsName_193 (by decide) ?_
              exact hk4 _ _
        · refine ev_lv (lv' := []) [] rfl ?_
          exact ev_vret dd_X12_readsName_101 rfl (Nat.le_of_ble_eq_true rfl) rfl
      · refine ev_icmp_eq 47 dd_X12_readsName_36 (by decide) ?_ ?_
        · refine ev_aload_n dd_X12_readsName_47 0 rfl ?_
          refine ev_getI gf_RX12_196 dd_X12_readsName_48 ht (by decide) ?_
          refine ev_bipush (v := 9) dd_X12_readsName_51 (by decide) ?_
          refine ev_icmp_le 61 dd_X12_readsName_53 (by decide) ?_ ?_
          · exact hk2 _
          · refine ev_aload_n dd_X12_readsName_56 0 rfl ?_
            refine ev_iconst (v := 2) dd_X12_readsName_57 (by decide) ?_
            refine ev_callVV (As := [.int 2]) cl_RX12_219 (ct_X12_wrong l hl G t ht 2 M4) dd_X12_readsName_58 ht (by decide) (Nat.le_of_ble_eq_true rfl) (Nat.le_of_ble_eq_true rfl) rfl rfl (fun M5 => ?_)
            exact hk2 _
        · refine ev_aload_n dd_X12_readsName_39 0 rfl ?_
          refine ev_iconst (v := 1) dd_X12_readsName_40 (by decide) ?_
          refine ev_callVV (As := [.int 1]) cl_RX12_219 (ct_X12_wrong l hl G t ht 1 M4) dd_X12_readsName_41 ht (by decide) (Nat.le_of_ble_eq_true rfl) (Nat.le_of_ble_eq_true rfl) rfl rfl (fun M6 => ?_)
          refine ev_goto 61 dd_X12_readsName_44 (by decide) ?_
          exact hk2 _
    · refine ev_lv (lv' := []) [] rfl ?_
      exact ev_vret dd_X12_readsName_21 rfl (Nat.le_of_ble_eq_true rfl) rfl
  · refine ev_icmp_ne 14 dd_X12_readsName_6 (by decide) ?_ ?_
    · exact hk1 _
    · refine ev_aload_n dd_X12_readsName_9 0 rfl ?_
      refine ev_iconst (v := 2) dd_X12_readsName_10 (by decide) ?_
      refine ev_callVV (As := [.int 2]) cl_RX12_219 (ct_X12_wrong l hl G t ht 2 M) dd_X12_readsName_11 ht (by decide) (Nat.le_of_ble_eq_true rfl) (Nat.le_of_ble_eq_true rfl) rfl rfl (fun M1 => ?_)
      exact hk1 _
/-! X12_readsWish -/
theorem dd_X12_readsWish_0 : decode Y_X12_readsWish.2.1 0 = .ok (.aload_n 0, 1) := by decide +kernel
theorem dd_X12_readsWish_1 : decode Y_X12_readsWish.2.1 1 = .ok (.invokevirtual 216, 3) := by decide +kernel
theorem dd_X12_readsWish_4 : decode Y_X12_readsWish.2.1 4 = .ok (.aload_n 0, 1) := by decide +kernel
theorem dd_X12_readsWish_5 : decode Y_X12_readsWish.2.1 5 = .ok (.invokevirtual 279, 3) := by decide +kernel
theorem dd_X12_readsWish_8 : decode Y_X12_readsWish.2.1 8 = .ok (.istore_n 1, 1) := by decide +kernel
theorem dd_X12_readsWish_9 : decode Y_X12_readsWish.2.1 9 = .ok (.aload_n 0, 1) := by decide +kernel
theorem dd_X12_readsWish_10 : decode Y_X12_readsWish.2.1 10 = .ok (.invokevirtual 212, 3) := by decide +kernel
theorem dd_X12_readsWish_13 : decode Y_X12_readsWish.2.1 13 = .ok (.ifCond .eq 20, 3) := by decide +kernel
theorem dd_X12_readsWish_16 : decode Y_X12_readsWish.2.1 16 = .ok (.aload_n 0, 1) := by decide +kernel
theorem dd_X12_readsWish_17 : decode Y_X12_readsWish.2.1 17 = .ok (.getfield 282, 3) := by decide +kernel
theorem dd_X12_readsWish_20 : decode Y_X12_readsWish.2.1 20 = .ok (.iload_n 1, 1) := by decide +kernel
theorem dd_X12_readsWish_21 : decode Y_X12_readsWish.2.1 21 = .ok (.ishr, 1) := by decide +kernel
theorem dd_X12_readsWish_22 : decode Y_X12_readsWish.2.1 22 = .ok (.iconst 1, 1) := by decide +kernel
theorem dd_X12_readsWish_23 : decode Y_X12_readsWish.2.1 23 = .ok (.iand, 1) := by decide +kernel
theorem dd_X12_readsWish_24 : decode Y_X12_readsWish.2.1 24 = .ok (.iconst 1, 1) := by decide +kernel
theorem dd_X12_readsWish_25 : decode Y_X12_readsWish.2.1 25 = .ok (.if_icmp .ne 8, 3) := by decide +kernel
theorem dd_X12_readsWish_28 : decode Y_X12_readsWish.2.1 28 = .ok (.aload_n 0, 1) := by decide +kernel
theorem dd_X12_readsWish_29 : decode Y_X12_readsWish.2.1 29 = .ok (.iconst 5, 1) := by decide +kernel
theorem dd_X12_readsWish_30 : decode Y_X12_readsWish.2.1 30 = .ok (.invokevirtual 219, 3) := by decide +kernel
theorem dd_X12_readsWish_33 : decode Y_X12_readsWish.2.1 33 = .ok (.aload_n 0, 1) := by decide +kernel
theorem dd_X12_readsWish_34 : decode Y_X12_readsWish.2.1 34 = .ok (.invokevirtual 212, 3) := by decide +kernel
theorem dd_X12_readsWish_37 : decode Y_X12_readsWish.2.1 37 = .ok (.ifCond .ne 4, 3) := by decide +kernel
theorem dd_X12_readsWish_40 : decode Y_X12_readsWish.2.1 40 = .ok (.return_, 1) := by decide +kernel
theorem dd_X12_readsWish_41 : decode Y_X12_readsWish.2.1 41 = .ok (.aload_n 0, 1) := by decide +kernel
theorem dd_X12_readsWish_42 : decode Y_X12_readsWish.2.1 42 = .ok (.dup, 1) := by decide +kernel
theorem dd_X12_readsWish_43 : decode Y_X12_readsWish.2.1 43 = .ok (.getfield 282, 3) := by decide +kernel
theorem dd_X12_readsWish_46 : decode Y_X12_readsWish.2.1 46 = .ok (.iconst 1, 1) := by decide +kernel
theorem dd_X12_readsWish_47 : decode Y_X12_readsWish.2.1 47 = .ok (.iload_n 1, 1) := by decide +kernel
theorem dd_X12_readsWish_48 : decode Y_X12_readsWish.2.1 48 = .ok (.ishl, 1) := by decide +kernel
theorem dd_X12_readsWish_49 : decode Y_X12_readsWish.2.1 49 = .ok (.ior, 1) := by decide +kernel
theorem dd_X12_readsWish_50 : decode Y_X12_readsWish.2.1 50 = .ok (.putfield 282, 3) := by decide +kernel
theorem dd_X12_readsWish_53 : decode Y_X12_readsWish.2.1 53 = .ok (.aload_n 0, 1) := by decide +kernel
theorem dd_X12_readsWish_54 : decode Y_X12_readsWish.2.1 54 = .ok (.getfield 71, 3) := by decide +kernel
theorem dd_X12_readsWish_57 : decode Y_X12_readsWish.2.1 57 = .ok (.iload_n 1, 1) := by decide +kernel
theorem dd_X12_readsWish_58 : decode Y_X12_readsWish.2.1 58 = .ok (.iconst 0, 1) := by decide +kernel
theorem dd_X12_readsWish_59 : decode Y_X12_readsWish.2.1 59 = .ok (.iastore, 1) := by decide +kernel
theorem dd_X12_readsWish_60 : decode Y_X12_readsWish.2.1 60 = .ok (.aload_n 0, 1) := by decide +kernel
theorem dd_X12_readsWish_61 : decode Y_X12_readsWish.2.1 61 = .ok (.invokevirtual 216, 3) := by decide +kernel
theorem dd_X12_readsWish_64 : decode Y_X12_readsWish.2.1 64 = .ok (.iconst 1, 1) := by decide +kernel
theorem dd_X12_readsWish_65 : decode Y_X12_readsWish.2.1 65 = .ok (.istore_n 2, 1) := by decide +kernel
theorem dd_X12_readsWish_66 : decode Y_X12_readsWish.2.1 66 = .ok (.iload_n 2, 1) := by decide +kernel
theorem dd_X12_readsWish_67 : decode Y_X12_readsWish.2.1 67 = .ok (.ifCond .eq 119, 3) := by decide +kernel
theorem dd_X12_readsWish_70 : decode Y_X12_readsWish.2.1 70 = .ok (.aload_n 0, 1) := by decide +kernel
theorem dd_X12_readsWish_71 : decode Y_X12_readsWish.2.1 71 = .ok (.invokevirtual 212, 3) := by decide +kernel
theorem dd_X12_readsWish_74 : decode Y_X12_readsWish.2.1 74 = .ok (.ifCond .eq 112, 3) := by decide +kernel
theorem dd_X12_readsWish_77 : decode Y_X12_readsWish.2.1 77 = .ok (.aload_n 0, 1) := by decide +kernel
theorem dd_X12_readsWish_78 : decode Y_X12_readsWish.2.1 78 = .ok (.invokevirtual 279, 3) := by decide +kernel
theorem dd_X12_readsWish_81 : decode Y_X12_readsWish.2.1 81 = .ok (.istore_n 3, 1) := by decide +kernel
theorem dd_X12_readsWish_82 : decode Y_X12_readsWish.2.1 82 = .ok (.iconst 0, 1) := by decide +kernel
theorem dd_X12_readsWish_83 : decode Y_X12_readsWish.2.1 83 = .ok (.istore 4, 2) := by decide +kernel
theorem dd_X12_readsWish_85 : decode Y_X12_readsWish.2.1 85 = .ok (.iload 4, 2) := by decide +kernel
theorem dd_X12_readsWish_87 : decode Y_X12_readsWish.2.1 87 = .ok (.aload_n 0, 1) := by decide +kernel
theorem dd_X12_readsWish_88 : decode Y_X12_readsWish.2.1 88 = .ok (.getfield 71, 3) := by decide +kernel
theorem dd_X12_readsWish_91 : decode Y_X12_readsWish.2.1 91 = .ok (.iload_n 1, 1) := by decide +kernel
theorem dd_X12_readsWish_92 : decode Y_X12_readsWish.2.1 92 = .ok (.iaload, 1) := by decide +kernel
theorem dd_X12_readsWish_93 : decode Y_X12_readsWish.2.1 93 = .ok (.if_icmp .ge 37, 3) := by decide +kernel
theorem dd_X12_readsWish_96 : decode Y_X12_readsWish.2.1 96 = .ok (.aload_n 0, 1) := by decide +kernel
theorem dd_X12_readsWish_97 : decode Y_X12_readsWish.2.1 97 = .ok (.invokevirtual 212, 3) := by decide +kernel
theorem dd_X12_readsWish_100 : decode Y_X12_readsWish.2.1 100 = .ok (.ifCond .eq 30, 3) := by decide +kernel
theorem dd_X12_readsWish_103 : decode Y_X12_readsWish.2.1 103 = .ok (.aload_n 0, 1) := by decide +kernel
theorem dd_X12_readsWish_104 : decode Y_X12_readsWish.2.1 104 = .ok (.getfield 68, 3) := by decide +kernel
theorem dd_X12_readsWish_107 : decode Y_X12_readsWish.2.1 107 = .ok (.bipush 8, 2) := by decide +kernel
theorem dd_X12_readsWish_109 : decode Y_X12_readsWish.2.1 109 = .ok (.iload_n 1, 1) := by decide +kernel
theorem dd_X12_readsWish_110 : decode Y_X12_readsWish.2.1 110 = .ok (.imul, 1) := by decide +kernel
theorem dd_X12_readsWish_111 : decode Y_X12_readsWish.2.1 111 = .ok (.iload 4, 2) := by decide +kernel
theorem dd_X12_readsWish_113 : decode Y_X12_readsWish.2.1 113 = .ok (.iadd, 1) := by decide +kernel
theorem dd_X12_readsWish_114 : decode Y_X12_readsWish.2.1 114 = .ok (.iaload, 1) := by decide +kernel
theorem dd_X12_readsWish_115 : decode Y_X12_readsWish.2.1 115 = .ok (.iload_n 3, 1) := by decide +kernel
theorem dd_X12_readsWish_116 : decode Y_X12_readsWish.2.1 116 = .ok (.if_icmp .ne 8, 3) := by decide +kernel
theorem dd_X12_readsWish_119 : decode Y_X12_readsWish.2.1 119 = .ok (.aload_n 0, 1) := by decide +kernel
theorem dd_X12_readsWish_120 : decode Y_X12_readsWish.2.1 120 = .ok (.iconst 4, 1) := by decide +kernel
theorem dd_X12_readsWish_121 : decode Y_X12_readsWish.2.1 121 = .ok (.invokevirtual 219, 3) := by decide +kernel
theorem dd_X12_readsWish_124 : decode Y_X12_readsWish.2.1 124 = .ok (.iinc 4 1, 3) := by decide +kernel
theorem dd_X12_readsWish_127 : decode Y_X12_readsWish.2.1 127 = .ok (.goto (-42), 3) := by decide +kernel
theorem dd_X12_readsWish_130 : decode Y_X12_readsWish.2.1 130 = .ok (.aload_n 0, 1) := by decide +kernel
theorem dd_X12_readsWish_131 : decode Y_X12_readsWish.2.1 131 = .ok (.invokevirtual 212, 3) := by decide +kernel
theorem dd_X12_readsWish_134 : decode Y_X12_readsWish.2.1 134 = .ok (.ifCond .ne 4, 3) := by decide +kernel
theorem dd_X12_readsWish_137 : decode Y_X12_readsWish.2.1 137 = .ok (.return_, 1) := by decide +kernel
theorem dd_X12_readsWish_138 : decode Y_X12_readsWish.2.1 138 = .ok (.aload_n 0, 1) := by decide +kernel
theorem dd_X12_readsWish_139 : decode Y_X12_readsWish.2.1 139 = .ok (.getfield 68, 3) := by decide +kernel
theorem dd_X12_readsWish_142 : decode Y_X12_readsWish.2.1 142 = .ok (.bipush 8, 2) := by decide +kernel
theorem dd_X12_readsWish_144 : decode Y_X12_readsWish.2.1 144 = .ok (.iload_n 1, 1) := by decide +kernel
theorem dd_X12_readsWish_145 : decode Y_X12_readsWish.2.1 145 = .ok (.imul, 1) := by decide +kernel
theorem dd_X12_readsWish_146 : decode Y_X12_readsWish.2.1 146 = .ok (.aload_n 0, 1) := by decide +kernel
theorem dd_X12_readsWish_147 : decode Y_X12_readsWish.2.1 147 = .ok (.getfield 71, 3) := by decide +kernel
theorem dd_X12_readsWish_150 : decode Y_X12_readsWish.2.1 150 = .ok (.iload_n 1, 1) := by decide +kernel
theorem dd_X12_readsWish_151 : decode Y_X12_readsWish.2.1 151 = .ok (.iaload, 1) := by decide +kernel
theorem dd_X12_readsWish_152 : decode Y_X12_readsWish.2.1 152 = .ok (.iadd, 1) := by decide +kernel
theorem dd_X12_readsWish_153 : decode Y_X12_readsWish.2.1 153 = .ok (.iload_n 3, 1) := by decide +kernel
theorem dd_X12_readsWish_154 : decode Y_X12_readsWish.2.1 154 = .ok (.iastore, 1) := by decide +kernel
theorem dd_X12_readsWish_155 : decode Y_X12_readsWish.2.1 155 = .ok (.aload_n 0, 1) := by decide +kernel
theorem dd_X12_readsWish_156 : decode Y_X12_readsWish.2.1 156 = .ok (.getfield 71, 3) := by decide +kernel
theorem dd_X12_readsWish_159 : decode Y_X12_readsWish.2.1 159 = .ok (.iload_n 1, 1) := by decide +kernel
theorem dd_X12_readsWish_160 : decode Y_X12_readsWish.2.1 160 = .ok (.dup2, 1) := by decide +kernel
theorem dd_X12_readsWish_161 : decode Y_X12_readsWish.2.1 161 = .ok (.iaload, 1) := by decide +kernel
theorem dd_X12_readsWish_162 : decode Y_X12_readsWish.2.1 162 = .ok (.iconst 1, 1) := by decide +kernel
theorem dd_X12_readsWish_163 : decode Y_X12_readsWish.2.1 163 = .ok (.iadd, 1) := by decide +kernel
theorem dd_X12_readsWish_164 : decode Y_X12_readsWish.2.1 164 = .ok (.iastore, 1) := by decide +kernel
theorem dd_X12_readsWish_165 : decode Y_X12_readsWish.2.1 165 = .ok (.aload_n 0, 1) := by decide +kernel
theorem dd_X12_readsWish_166 : decode Y_X12_readsWish.2.1 166 = .ok (.invokevirtual 216, 3) := by decide +kernel
theorem dd_X12_readsWish_169 : decode Y_X12_readsWish.2.1 169 = .ok (.aload_n 0, 1) := by decide +kernel
theorem dd_X12_readsWish_170 : decode Y_X12_readsWish.2.1 170 = .ok (.getfield 186, 3) := by decide +kernel
theorem dd_X12_readsWish_173 : decode Y_X12_readsWish.2.1 173 = .ok (.iconst 2, 1) := by decide +kernel
theorem dd_X12_readsWish_174 : decode Y_X12_readsWish.2.1 174 = .ok (.if_icmp .ne 7, 3) := by decide +kernel
theorem dd_X12_readsWish_177 : decode Y_X12_readsWish.2.1 177 = .ok (.iconst 1, 1) := by decide +kernel
theorem dd_X12_readsWish_178 : decode Y_X12_readsWish.2.1 178 = .ok (.goto 4, 3) := by decide +kernel
theorem dd_X12_readsWish_181 : decode Y_X12_readsWish.2.1 181 = .ok (.iconst 0, 1) := by decide +kernel
theorem dd_X12_readsWish_182 : decode Y_X12_readsWish.2.1 182 = .ok (.istore_n 2, 1) := by decide +kernel
theorem dd_X12_readsWish_183 : decode Y_X12_readsWish.2.1 183 = .ok (.goto (-117), 3) := by decide +kernel
theorem dd_X12_readsWish_186 : decode Y_X12_readsWish.2.1 186 = .ok (.return_, 1) := by decide +kernel
def F_X12_readsWish_L85 (x0 : Nat) (x1 : Int32) (x3 : Int32) (K130 : zM → zO) : Nat → Int32 → zM → zO
  | 0, _, _ => none
  | n + 1, x4, M => zck (zin x1 8) (zit ((M (zgr x0 42) (zix x1)) ≤ x4) (K130 M) (zbI (F_X12_isGood x0 M) (fun r6 M12 => zit (r6 = 0) (K130 M12) (zck (zin ((8 * x1) + x4) 64) (zjo (fun  (M14 : zM) => F_X12_readsWish_L85 x0 x1 x3 K130 n (x4 + 1) M14) (fun (k2 : zM → zO) => zit ((M12 (zgr x0 41) (zix ((8 * x1) + x4))) = x3) (zbV (F_X12_wrong x0 4 M12) (fun M13 => k2 M13)) (k2 M12)))))))
def F_X12_readsWish_L66 (x0 : Nat) (x1 : Int32) (K186 : zM → zO) : Nat → Int32 → zM → zO
  | 0, _, _ => none
  | n + 1, x2, M => zit (x2 = 0) (K186 M) (zbI (F_X12_isGood x0 M) (fun r4 M10 => zit (r4 = 0) (K186 M10) (zbI (F_X12_oneHere x0 M10) (fun r5 M11 => F_X12_readsWish_L85 x0 x1 r5 (fun  (M15 : zM) => zbI (F_X12_isGood x0 M15) (fun r7 M16 => zit (r7 = 0) (zV M16) (zck (zin x1 8) (zck (zin ((8 * x1) + (M16 (zgr x0 42) (zix x1))) 64) (zst (zup M16 (zgr x0 41) (zix ((8 * x1) + (M16 (zgr x0 42) (zix x1)))) r5) (fun M17 => zck (zin x1 8) (zck (zin x1 8) (zst (zup M17 (zgr x0 42) (zix x1) ((M17 (zgr x0 42) (zix x1)) + 1)) (fun M18 => zbV (F_X12_goes x0 M18) (fun M19 => zjo (fun (w1 : Int32) (M20 : zM) => F_X12_readsWish_L66 x0 x1 K186 n w1 M20) (fun (k3 : Int32 → zM → zO) => zit ((M19 x0 21) = 2) (k3 1 M19) (k3 0 M19)))))))))))) zN 0 M11))))
def F_X12_readsWish (t : Nat) (M : zM) : zO := zbV (F_X12_goes t M) (fun M1 => zbI (F_X12_oneHere t M1) (fun r1 M2 => zbI (F_X12_isGood t M2) (fun r2 M3 => zjo (fun  (M5 : zM) => zbI (F_X12_isGood t M5) (fun r3 M6 => zit (r3 = 0) (zV M6) (zst (zup M6 t 32 ((M6 t 32) ||| ((1 : Int32) <<< (r1 &&& 31)))) (fun M7 => zck (zin r1 8) (zst (zup M7 (zgr t 42) (zix r1) 0) (fun M8 => zbV (F_X12_goes t M8) (fun M9 => F_X12_readsWish_L66 t r1 (fun  (M21 : zM) => zV M21) zN 1 M9))))))) (fun (k1 : zM → zO) => zit (r2 = 0) (k1 M3) (zit ((((M3 t 32) >>> (r1 &&& 31)) &&& 1) = 1) (zbV (F_X12_wrong t 5 M3) (fun M4 => k1 M4)) (k1 M3))))))
set_option maxHeartbeats 1000000 in
set_option maxRecDepth 20000 in
theorem ct_X12_readsWish_L85 (l : Launch) (hl : l.stackTraces = false) (G : zG) (x0 : Nat) (hx0 : zsh x0 = 12) (x1 : Int32) (x3 : Int32) (K130 : zM → zO) (hK130 : ∀  (M : zM), zEv l G Y_X12_readsWish 3 0 130 [(0, .ref (G.2.1 + x0)), (1, .int x1), (3, .int x3)] [] M (K130 M)) : ∀ (n : Nat) (x4 : Int32) (M : zM), zEv l G Y_X12_readsWish 3 0 85 [(0, .ref (G.2.1 + x0)), (1, .int x1), (3, .int x3), (4, .int x4)] [] M (F_X12_readsWish_L85 x0 x1 x3 K130 n x4 M) := by
  intro n
  induction n with
  | zero => intro x4 M; exact ev_none
  | succ n ih =>
    intro x4 M
    show zEv l G Y_X12_readsWish 3 0 85 [(0, .ref (G.2.1 + x0)), (1, .int x1), (3, .int x3), (4, .int x4)] [] M (zck (zin x1 8) (zit ((M (zgr x0 42) (zix x1)) ≤ x4) (K130 M) (zbI (F_X12_isGood x0 M) (fun r6 M12 => zit (r6 = 0) (K130 M12) (zck (zin ((8 * x1) + x4) 64) (zjo (fun  (M14 : zM) => F_X12_readsWish_L85 x0 x1 x3 K130 n (x4 + 1) M14) (fun (k2 : zM → zO) => zit ((M12 (zgr x0 41) (zix ((8 * x1) + x4))) = x3) (zbV (F_X12_wrong x0 4 M12) (fun M13 => k2 M13)) (k2 M12))))))))
    refine ev_iload dd_X12_readsWish_85 3 rfl ?_
    refine ev_aload_n dd_X12_readsWish_87 0 rfl ?_
    refine ev_getR gf_RX12_71 dd_X12_readsWish_88 hx0 (by decide) ?_
    refine ev_iload_n dd_X12_readsWish_91 1 rfl ?_
    refine ev_iald dd_X12_readsWish_92 ((zg_12_42 hx0).1) ((zg_12_42 hx0).2) ?_
    refine ev_icmp_ge 130 dd_X12_readsWish_93 (by decide) ?_ ?_
    · refine ev_lv (lv' := [(0, .ref (G.2.1 + x0)), (1, .int x1), (3, .int x3)]) [0, 1, 2] rfl ?_
      exact hK130 _
    · refine ev_aload_n dd_X12_readsWish_96 0 rfl ?_
      refine ev_callVI (As := []) cl_RX12_212 (ct_X12_isGood l hl G x0 hx0 M) dd_X12_readsWish_97 hx0 (by decide) (Nat.le_of_ble_eq_true rfl) (Nat.le_of_ble_eq_true rfl) rfl rfl (fun r6 M12 => ?_)
      refine ev_if_eq 130 dd_X12_readsWish_100 (by decide) ?_ ?_
      · refine ev_lv (lv' := [(0, .ref (G.2.1 + x0)), (1, .int x1), (3, .int x3)]) [0, 1, 2] rfl ?_
        exact hK130 _
      · refine ev_aload_n dd_X12_readsWish_103 0 rfl ?_
        refine ev_getR gf_RX12_68 dd_X12_readsWish_104 hx0 (by decide) ?_
        refine ev_bipush (v := 8) dd_X12_readsWish_107 (by decide) ?_
        refine ev_iload_n dd_X12_readsWish_109 1 rfl ?_
        refine ev_imul dd_X12_readsWish_110 ?_
        refine ev_iload dd_X12_readsWish_111 3 rfl ?_
        refine ev_iadd dd_X12_readsWish_113 ?_
        refine ev_iald dd_X12_readsWish_114 ((zg_12_41 hx0).1) ((zg_12_41 hx0).2) ?_
        refine ev_iload_n dd_X12_readsWish_115 2 rfl ?_
        refine ev_jo (fun (k2 : zM → zO) => ∀  (M14 : zM), zEv l G Y_X12_readsWish 3 0 124 [(0, .ref (G.2.1 + x0)), (1, .int x1), (3, .int x3), (4, .int x4)] [] M14 (k2 M14)) ?_ (fun k2 hk2 => ?_)
        · intro M14
          refine ev_iinc (j := 3) (v := 1) (lv' := [(0, .ref (G.2.1 + x0)), (1, .int x1), (3, .int x3), (4, .int (x4 + 1))]) [1, 2, 3, 0] dd_X12_readsWish_124 rfl (by decide) (by decide) rfl ?_
          refine ev_goto 85 dd_X12_readsWish_127 (by decide) ?_
          exact ih _ _
        · refine ev_icmp_ne 124 dd_X12_readsWish_116 (by decide) ?_ ?_
          · exact hk2 _
          · refine ev_aload_n dd_X12_readsWish_119 0 rfl ?_
            refine ev_iconst (v := 4) dd_X12_readsWish_120 (by decide) ?_
            refine ev_callVV (As := [.int 4]) cl_RX12_219 (ct_X12_wrong l hl G x0 hx0 4 M12) dd_X12_readsWish_121 hx0 (by decide) (Nat.le_of_ble_eq_true rfl) (Nat.le_of_ble_eq_true rfl) rfl rfl (fun M13 => ?_)
            exact hk2 _
set_option maxHeartbeats 1000000 in
set_option maxRecDepth 20000 in
theorem ct_X12_readsWish_L66 (l : Launch) (hl : l.stackTraces = false) (G : zG) (x0 : Nat) (hx0 : zsh x0 = 12) (x1 : Int32) (K186 : zM → zO) (hK186 : ∀  (M : zM), zEv l G Y_X12_readsWish 3 0 186 [] [] M (K186 M)) : ∀ (n : Nat) (x2 : Int32) (M : zM), zEv l G Y_X12_readsWish 3 0 66 [(0, .ref (G.2.1 + x0)), (1, .int x1), (2, .int x2)] [] M (F_X12_readsWish_L66 x0 x1 K186 n x2 M) := by
  intro n
  induction n with
  | zero => intro x2 M; exact ev_none
  | succ n ih =>
    intro x2 M
    show zEv l G Y_X12_readsWish 3 0 66 [(0, .ref (G.2.1 + x0)), (1, .int x1), (2, .int x2)] [] M (zit (x2 = 0) (K186 M) (zbI (F_X12_isGood x0 M) (fun r4 M10 => zit (r4 = 0) (K186 M10) (zbI (F_X12_oneHere x0 M10) (fun r5 M11 => F_X12_readsWish_L85 x0 x1 r5 (fun  (M15 : zM) => zbI (F_X12_isGood x0 M15) (fun r7 M16 => zit (r7 = 0) (zV M16) (zck (zin x1 8) (zck (zin ((8 * x1) + (M16 (zgr x0 42) (zix x1))) 64) (zst (zup M16 (zgr x0 41) (zix ((8 * x1) + (M16 (zgr x0 42) (zix x1)))) r5) (fun M17 => zck (zin x1 8) (zck (zin x1 8) (zst (zup M17 (zgr x0 42) (zix x1) ((M17 (zgr x0 42) (zix x1)) + 1)) (fun M18 => zbV (F_X12_goes x0 M18) (fun M19 => zjo (fun (w1 : Int32) (M20 : zM) => F_X12_readsWish_L66 x0 x1 K186 n w1 M20) (fun (k3 : Int32 → zM → zO) => zit ((M19 x0 21) = 2) (k3 1 M19) (k3 0 M19)))))))))))) zN 0 M11)))))
    refine ev_iload_n dd_X12_readsWish_66 2 rfl ?_
    refine ev_lv (lv' := [(0, .ref (G.2.1 + x0)), (1, .int x1)]) [0, 1] rfl ?_
    refine ev_if_eq 186 dd_X12_readsWish_67 (by decide) ?_ ?_
    · refine ev_lv (lv' := []) [] rfl ?_
      exact hK186 _
    · refine ev_aload_n dd_X12_readsWish_70 0 rfl ?_
      refine ev_callVI (As := []) cl_RX12_212 (ct_X12_isGood l hl G x0 hx0 M) dd_X12_readsWish_71 hx0 (by decide) (Nat.le_of_ble_eq_true rfl) (Nat.le_of_ble_eq_true rfl) rfl rfl (fun r4 M10 => ?_)
      refine ev_if_eq 186 dd_X12_readsWish_74 (by decide) ?_ ?_
      · refine ev_lv (lv' := []) [] rfl ?_
        exact hK186 _
      · refine ev_aload_n dd_X12_readsWish_77 0 rfl ?_
        refine ev_callVI (As := []) cl_RX12_279 (ct_X12_oneHere l hl G x0 hx0 M10) dd_X12_readsWish_78 hx0 (by decide) (Nat.le_of_ble_eq_true rfl) (Nat.le_of_ble_eq_true rfl) rfl rfl (fun r5 M11 => ?_)
        refine ev_istore_n (i := 3) (lv' := [(0, .ref (G.2.1 + x0)), (1, .int x1), (3, .int r5)]) [1, 2, 0] dd_X12_readsWish_81 rfl (by decide) rfl ?_
        refine ev_iconst (v := 0) dd_X12_readsWish_82 (by decide) ?_
        refine ev_istore (i := 4) (lv' := [(0, .ref (G.2.1 + x0)), (1, .int x1), (3, .int r5), (4, .int 0)]) [1, 2, 3, 0] dd_X12_readsWish_83 (by decide) rfl ?_
        refine ct_X12_readsWish_L85 l hl G x0 hx0 x1 r5 _ (fun M15 => ?_) zN _ _
        refine ev_aload_n dd_X12_readsWish_130 0 rfl ?_
        refine ev_callVI (As := []) cl_RX12_212 (ct_X12_isGood l hl G x0 hx0 M15) dd_X12_readsWish_131 hx0 (by decide) (Nat.le_of_ble_eq_true rfl) (Nat.le_of_ble_eq_true rfl) rfl rfl (fun r7 M16 => ?_)
        refine ev_if_ne 138 dd_X12_readsWish_134 (by decide) ?_ ?_
        · refine ev_aload_n dd_X12_readsWish_138 0 rfl ?_
          refine ev_getR gf_RX12_68 dd_X12_readsWish_139 hx0 (by decide) ?_
          refine ev_bipush (v := 8) dd_X12_readsWish_142 (by decide) ?_
          refine ev_iload_n dd_X12_readsWish_144 1 rfl ?_
          refine ev_imul dd_X12_readsWish_145 ?_
          refine ev_aload_n dd_X12_readsWish_146 0 rfl ?_
          refine ev_getR gf_RX12_71 dd_X12_readsWish_147 hx0 (by decide) ?_
          refine ev_iload_n dd_X12_readsWish_150 1 rfl ?_
          refine ev_iald dd_X12_readsWish_151 ((zg_12_42 hx0).1) ((zg_12_42 hx0).2) ?_
          refine ev_iadd dd_X12_readsWish_152 ?_
          refine ev_iload_n dd_X12_readsWish_153 2 rfl ?_
          refine ev_lv (lv' := [(0, .ref (G.2.1 + x0)), (1, .int x1)]) [0, 1] rfl ?_
          refine ev_iast dd_X12_readsWish_154 ((zg_12_41 hx0).1) ((zg_12_41 hx0).2) ?_
          refine ev_st (fun M17 => ?_)
          refine ev_aload_n dd_X12_readsWish_155 0 rfl ?_
          refine ev_getR gf_RX12_71 dd_X12_readsWish_156 hx0 (by decide) ?_
          refine ev_iload_n dd_X12_readsWish_159 1 rfl ?_
          refine ev_dup2 dd_X12_readsWish_160 rfl rfl ?_
          refine ev_iald dd_X12_readsWish_161 ((zg_12_42 hx0).1) ((zg_12_42 hx0).2) ?_
          refine ev_iconst (v := 1) dd_X12_readsWish_162 (by decide) ?_
          refine ev_iadd dd_X12_readsWish_163 ?_
          refine ev_iast dd_X12_readsWish_164 ((zg_12_42 hx0).1) ((zg_12_42 hx0).2) ?_
          refine ev_st (fun M18 => ?_)
          refine ev_aload_n dd_X12_readsWish_165 0 rfl ?_
          refine ev_callVV (As := []) cl_RX12_216 (ct_X12_goes l hl G x0 hx0 M18) dd_X12_readsWish_166 hx0 (by decide) (Nat.le_of_ble_eq_true rfl) (Nat.le_of_ble_eq_true rfl) rfl rfl (fun M19 => ?_)
          refine ev_aload_n dd_X12_readsWish_169 0 rfl ?_
          refine ev_getI gf_RX12_186 dd_X12_readsWish_170 hx0 (by decide) ?_
          refine ev_iconst (v := 2) dd_X12_readsWish_173 (by decide) ?_
          refine ev_jo (fun (k3 : Int32 → zM → zO) => ∀ (w1 : Int32) (M20 : zM), zEv l G Y_X12_readsWish 3 0 182 [(0, .ref (G.2.1 + x0)), (1, .int x1)] [.int w1] M20 (k3 w1 M20)) ?_ (fun k3 hk3 => ?_)
          · intro w1 M20
            refine ev_istore_n (i := 2) (lv' := [(0, .ref (G.2.1 + x0)), (1, .int x1), (2, .int w1)]) [1, 2, 0] dd_X12_readsWish_182 rfl (by decide) rfl ?_
            refine ev_goto 66 dd_X12_readsWish_183 (by decide) ?_
            exact ih _ _
          · refine ev_icmp_ne 181 dd_X12_readsWish_174 (by decide) ?_ ?_
            · refine ev_iconst (v := 0) dd_X12_readsWish_181 (by decide) ?_
              exact hk3 _ _
            · refine ev_iconst (v := 1) dd_X12_readsWish_177 (by decide) ?_
              refine ev_goto 182 dd_X12_readsWish_178 (by decide) ?_
              exact hk3 _ _
        · refine ev_lv (lv' := []) [] rfl ?_
          exact ev_vret dd_X12_readsWish_137 rfl (Nat.le_of_ble_eq_true rfl) rfl
set_option maxHeartbeats 1000000 in
set_option maxRecDepth 20000 in
theorem ct_X12_readsWish (l : Launch) (hl : l.stackTraces = false) (G : zG) (t : Nat) (ht : zsh t = 12) (M : zM) : zMt l G Y_X12_readsWish 3 [.ref (G.2.1 + t)] M (F_X12_readsWish t M) := by
  refine zMt_of (by decide +kernel) (Nat.le_of_ble_eq_true rfl) ?_
  show zEv l G Y_X12_readsWish 3 0 0 [(0, .ref (G.2.1 + t))] [] M (zbV (F_X12_goes t M) (fun M1 => zbI (F_X12_oneHere t M1) (fun r1 M2 => zbI (F_X12_isGood t M2) (fun r2 M3 => zjo (fun  (M5 : zM) => zbI (F_X12_isGood t M5) (fun r3 M6 => zit (r3 = 0) (zV M6) (zst (zup M6 t 32 ((M6 t 32) ||| ((1 : Int32) <<< (r1 &&& 31)))) (fun M7 => zck (zin r1 8) (zst (zup M7 (zgr t 42) (zix r1) 0) (fun M8 => zbV (F_X12_goes t M8) (fun M9 => F_X12_readsWish_L66 t r1 (fun  (M21 : zM) => zV M21) zN 1 M9))))))) (fun (k1 : zM → zO) => zit (r2 = 0) (k1 M3) (zit ((((M3 t 32) >>> (r1 &&& 31)) &&& 1) = 1) (zbV (F_X12_wrong t 5 M3) (fun M4 => k1 M4)) (k1 M3)))))))
  refine ev_aload_n dd_X12_readsWish_0 0 rfl ?_
  refine ev_callVV (As := []) cl_RX12_216 (ct_X12_goes l hl G t ht M) dd_X12_readsWish_1 ht (by decide) (Nat.le_of_ble_eq_true rfl) (Nat.le_of_ble_eq_true rfl) rfl rfl (fun M1 => ?_)
  refine ev_aload_n dd_X12_readsWish_4 0 rfl ?_
  refine ev_callVI (As := []) cl_RX12_279 (ct_X12_oneHere l hl G t ht M1) dd_X12_readsWish_5 ht (by decide) (Nat.le_of_ble_eq_true rfl) (Nat.le_of_ble_eq_true rfl) rfl rfl (fun r1 M2 => ?_)
  refine ev_istore_n (i := 1) (lv' := [(0, .ref (G.2.1 + t)), (1, .int r1)]) [1, 0] dd_X12_readsWish_8 rfl (by decide) rfl ?_
  refine ev_aload_n dd_X12_readsWish_9 0 rfl ?_
  refine ev_callVI (As := []) cl_RX12_212 (ct_X12_isGood l hl G t ht M2) dd_X12_readsWish_10 ht (by decide) (Nat.le_of_ble_eq_true rfl) (Nat.le_of_ble_eq_true rfl) rfl rfl (fun r2 M3 => ?_)
  refine ev_jo (fun (k1 : zM → zO) => ∀  (M5 : zM), zEv l G Y_X12_readsWish 3 0 33 [(0, .ref (G.2.1 + t)), (1, .int r1)] [] M5 (k1 M5)) ?_ (fun k1 hk1 => ?_)
  · intro M5
    refine ev_aload_n dd_X12_readsWish_33 0 rfl ?_
    refine ev_callVI (As := []) cl_RX12_212 (ct_X12_isGood l hl G t ht M5) dd_X12_readsWish_34 ht (by decide) (Nat.le_of_ble_eq_true rfl) (Nat.le_of_ble_eq_true rfl) rfl rfl (fun r3 M6 => ?_)
    refine ev_if_ne 41 dd_X12_readsWish_37 (by decide) ?_ ?_
    · refine ev_aload_n dd_X12_readsWish_41 0 rfl ?_
      refine ev_dup dd_X12_readsWish_42 rfl ?_
      refine ev_getI gf_RX12_282 dd_X12_readsWish_43 ht (by decide) ?_
      refine ev_iconst (v := 1) dd_X12_readsWish_46 (by decide) ?_
      refine ev_iload_n dd_X12_readsWish_47 1 rfl ?_
      refine ev_ishl dd_X12_readsWish_48 ?_
      refine ev_ior dd_X12_readsWish_49 ?_
      refine ev_putI gw_RX12_282 dd_X12_readsWish_50 ht (by decide) ?_
      refine ev_st (fun M7 => ?_)
      refine ev_aload_n dd_X12_readsWish_53 0 rfl ?_
      refine ev_getR gf_RX12_71 dd_X12_readsWish_54 ht (by decide) ?_
      refine ev_iload_n dd_X12_readsWish_57 1 rfl ?_
      refine ev_iconst (v := 0) dd_X12_readsWish_58 (by decide) ?_
      refine ev_iast dd_X12_readsWish_59 ((zg_12_42 ht).1) ((zg_12_42 ht).2) ?_
      refine ev_st (fun M8 => ?_)
      refine ev_aload_n dd_X12_readsWish_60 0 rfl ?_
      refine ev_callVV (As := []) cl_RX12_216 (ct_X12_goes l hl G t ht M8) dd_X12_readsWish_61 ht (by decide) (Nat.le_of_ble_eq_true rfl) (Nat.le_of_ble_eq_true rfl) rfl rfl (fun M9 => ?_)
      refine ev_iconst (v := 1) dd_X12_readsWish_64 (by decide) ?_
      refine ev_istore_n (i := 2) (lv' := [(0, .ref (G.2.1 + t)), (1, .int r1), (2, .int 1)]) [1, 2, 0] dd_X12_readsWish_65 rfl (by decide) rfl ?_
      refine ct_X12_readsWish_L66 l hl G t ht r1 _ (fun M21 => ?_) zN _ _
      exact ev_vret dd_X12_readsWish_186 rfl (Nat.le_of_ble_eq_true rfl) rfl
    · refine ev_lv (lv' := []) [] rfl ?_
      exact ev_vret dd_X12_readsWish_40 rfl (Nat.le_of_ble_eq_true rfl) rfl
  · refine ev_if_eq 33 dd_X12_readsWish_13 (by decide) ?_ ?_
    · exact hk1 _
    · refine ev_aload_n dd_X12_readsWish_16 0 rfl ?_
      refine ev_getI gf_RX12_282 dd_X12_readsWish_17 ht (by decide) ?_
      refine ev_iload_n dd_X12_readsWish_20 1 rfl ?_
      refine ev_ishr dd_X12_readsWish_21 ?_
      refine ev_iconst (v := 1) dd_X12_readsWish_22 (by decide) ?_
      refine ev_iand dd_X12_readsWish_23 ?_
      refine ev_iconst (v := 1) dd_X12_readsWish_24 (by decide) ?_
      refine ev_icmp_ne 33 dd_X12_readsWish_25 (by decide) ?_ ?_
      · exact hk1 _
      · refine ev_aload_n dd_X12_readsWish_28 0 rfl ?_
        refine ev_iconst (v := 5) dd_X12_readsWish_29 (by decide) ?_
        refine ev_callVV (As := [.int 5]) cl_RX12_219 (ct_X12_wrong l hl G t ht 5 M3) dd_X12_readsWish_30 ht (by decide) (Nat.le_of_ble_eq_true rfl) (Nat.le_of_ble_eq_true rfl) rfl rfl (fun M4 => ?_)
        exact hk1 _
/-! X12_line -/
theorem dd_X12_line_0 : decode Y_X12_line.2.1 0 = .ok (.aload_n 0, 1) := by decide +kernel
theorem dd_X12_line_1 : decode Y_X12_line.2.1 1 = .ok (.invokevirtual 240, 3) := by decide +kernel
theorem dd_X12_line_4 : decode Y_X12_line.2.1 4 = .ok (.istore_n 1, 1) := by decide +kernel
theorem dd_X12_line_5 : decode Y_X12_line.2.1 5 = .ok (.iload_n 1, 1) := by decide +kernel
theorem dd_X12_line_6 : decode Y_X12_line.2.1 6 = .ok (.bipush 7, 2) := by decide +kernel
theorem dd_X12_line_8 : decode Y_X12_line.2.1 8 = .ok (.if_icmp .ne 10, 3) := by decide +kernel
theorem dd_X12_line_11 : decode Y_X12_line.2.1 11 = .ok (.aload_n 0, 1) := by decide +kernel
theorem dd_X12_line_12 : decode Y_X12_line.2.1 12 = .ok (.invokevirtual 288, 3) := by decide +kernel
theorem dd_X12_line_15 : decode Y_X12_line.2.1 15 = .ok (.goto 122, 3) := by decide +kernel
theorem dd_X12_line_18 : decode Y_X12_line.2.1 18 = .ok (.iload_n 1, 1) := by decide +kernel
theorem dd_X12_line_19 : decode Y_X12_line.2.1 19 = .ok (.bipush 10, 2) := by decide +kernel
theorem dd_X12_line_21 : decode Y_X12_line.2.1 21 = .ok (.if_icmp .ne 10, 3) := by decide +kernel
theorem dd_X12_line_24 : decode Y_X12_line.2.1 24 = .ok (.aload_n 0, 1) := by decide +kernel
theorem dd_X12_line_25 : decode Y_X12_line.2.1 25 = .ok (.invokevirtual 291, 3) := by decide +kernel
theorem dd_X12_line_28 : decode Y_X12_line.2.1 28 = .ok (.goto 109, 3) := by decide +kernel
theorem dd_X12_line_31 : decode Y_X12_line.2.1 31 = .ok (.iload_n 1, 1) := by decide +kernel
theorem dd_X12_line_32 : decode Y_X12_line.2.1 32 = .ok (.bipush 11, 2) := by decide +kernel
theorem dd_X12_line_34 : decode Y_X12_line.2.1 34 = .ok (.if_icmp .ne 10, 3) := by decide +kernel
theorem dd_X12_line_37 : decode Y_X12_line.2.1 37 = .ok (.aload_n 0, 1) := by decide +kernel
theorem dd_X12_line_38 : decode Y_X12_line.2.1 38 = .ok (.invokevirtual 294, 3) := by decide +kernel
theorem dd_X12_line_41 : decode Y_X12_line.2.1 41 = .ok (.goto 96, 3) := by decide +kernel
theorem dd_X12_line_44 : decode Y_X12_line.2.1 44 = .ok (.iload_n 1, 1) := by decide +kernel
theorem dd_X12_line_45 : decode Y_X12_line.2.1 45 = .ok (.bipush 12, 2) := by decide +kernel
theorem dd_X12_line_47 : decode Y_X12_line.2.1 47 = .ok (.if_icmp .eq 9, 3) := by decide +kernel
theorem dd_X12_line_50 : decode Y_X12_line.2.1 50 = .ok (.iload_n 1, 1) := by decide +kernel
theorem dd_X12_line_51 : decode Y_X12_line.2.1 51 = .ok (.bipush 13, 2) := by decide +kernel
theorem dd_X12_line_53 : decode Y_X12_line.2.1 53 = .ok (.if_icmp .ne 79, 3) := by decide +kernel
theorem dd_X12_line_56 : decode Y_X12_line.2.1 56 = .ok (.aload_n 0, 1) := by decide +kernel
theorem dd_X12_line_57 : decode Y_X12_line.2.1 57 = .ok (.getfield 297, 3) := by decide +kernel
theorem dd_X12_line_60 : decode Y_X12_line.2.1 60 = .ok (.iload_n 1, 1) := by decide +kernel
theorem dd_X12_line_61 : decode Y_X12_line.2.1 61 = .ok (.ishr, 1) := by decide +kernel
theorem dd_X12_line_62 : decode Y_X12_line.2.1 62 = .ok (.iconst 1, 1) := by decide +kernel
theorem dd_X12_line_63 : decode Y_X12_line.2.1 63 = .ok (.iand, 1) := by decide +kernel
theorem dd_X12_line_64 : decode Y_X12_line.2.1 64 = .ok (.iconst 1, 1) := by decide +kernel
theorem dd_X12_line_65 : decode Y_X12_line.2.1 65 = .ok (.if_icmp .ne 8, 3) := by decide +kernel
theorem dd_X12_line_68 : decode Y_X12_line.2.1 68 = .ok (.aload_n 0, 1) := by decide +kernel
theorem dd_X12_line_69 : decode Y_X12_line.2.1 69 = .ok (.iconst 5, 1) := by decide +kernel
theorem dd_X12_line_70 : decode Y_X12_line.2.1 70 = .ok (.invokevirtual 219, 3) := by decide +kernel
theorem dd_X12_line_73 : decode Y_X12_line.2.1 73 = .ok (.aload_n 0, 1) := by decide +kernel
theorem dd_X12_line_74 : decode Y_X12_line.2.1 74 = .ok (.invokevirtual 212, 3) := by decide +kernel
theorem dd_X12_line_77 : decode Y_X12_line.2.1 77 = .ok (.ifCond .ne 4, 3) := by decide +kernel
theorem dd_X12_line_80 : decode Y_X12_line.2.1 80 = .ok (.return_, 1) := by decide +kernel
theorem dd_X12_line_81 : decode Y_X12_line.2.1 81 = .ok (.aload_n 0, 1) := by decide +kernel
theorem dd_X12_line_82 : decode Y_X12_line.2.1 82 = .ok (.dup, 1) := by decide +kernel
theorem dd_X12_line_83 : decode Y_X12_line.2.1 83 = .ok (.getfield 297, 3) := by decide +kernel
theorem dd_X12_line_86 : decode Y_X12_line.2.1 86 = .ok (.iconst 1, 1) := by decide +kernel
theorem dd_X12_line_87 : decode Y_X12_line.2.1 87 = .ok (.iload_n 1, 1) := by decide +kernel
theorem dd_X12_line_88 : decode Y_X12_line.2.1 88 = .ok (.ishl, 1) := by decide +kernel
theorem dd_X12_line_89 : decode Y_X12_line.2.1 89 = .ok (.ior, 1) := by decide +kernel
theorem dd_X12_line_90 : decode Y_X12_line.2.1 90 = .ok (.putfield 297, 3) := by decide +kernel
theorem dd_X12_line_93 : decode Y_X12_line.2.1 93 = .ok (.aload_n 0, 1) := by decide +kernel
theorem dd_X12_line_94 : decode Y_X12_line.2.1 94 = .ok (.invokevirtual 216, 3) := by decide +kernel
theorem dd_X12_line_97 : decode Y_X12_line.2.1 97 = .ok (.iload_n 1, 1) := by decide +kernel
theorem dd_X12_line_98 : decode Y_X12_line.2.1 98 = .ok (.bipush 12, 2) := by decide +kernel
theorem dd_X12_line_100 : decode Y_X12_line.2.1 100 = .ok (.if_icmp .ne 17, 3) := by decide +kernel
theorem dd_X12_line_103 : decode Y_X12_line.2.1 103 = .ok (.aload_n 0, 1) := by decide +kernel
theorem dd_X12_line_104 : decode Y_X12_line.2.1 104 = .ok (.aload_n 0, 1) := by decide +kernel
theorem dd_X12_line_105 : decode Y_X12_line.2.1 105 = .ok (.iconst 1, 1) := by decide +kernel
theorem dd_X12_line_106 : decode Y_X12_line.2.1 106 = .ok (.bipush 9, 2) := by decide +kernel
theorem dd_X12_line_108 : decode Y_X12_line.2.1 108 = .ok (.invokevirtual 275, 3) := by decide +kernel
theorem dd_X12_line_111 : decode Y_X12_line.2.1 111 = .ok (.putfield 300, 3) := by decide +kernel
theorem dd_X12_line_114 : decode Y_X12_line.2.1 114 = .ok (.goto 23, 3) := by decide +kernel
theorem dd_X12_line_117 : decode Y_X12_line.2.1 117 = .ok (.aload_n 0, 1) := by decide +kernel
theorem dd_X12_line_118 : decode Y_X12_line.2.1 118 = .ok (.aload_n 0, 1) := by decide +kernel
theorem dd_X12_line_119 : decode Y_X12_line.2.1 119 = .ok (.getfield 225, 3) := by decide +kernel
theorem dd_X12_line_122 : decode Y_X12_line.2.1 122 = .ok (.putfield 303, 3) := by decide +kernel
theorem dd_X12_line_125 : decode Y_X12_line.2.1 125 = .ok (.aload_n 0, 1) := by decide +kernel
theorem dd_X12_line_126 : decode Y_X12_line.2.1 126 = .ok (.invokevirtual 306, 3) := by decide +kernel
theorem dd_X12_line_129 : decode Y_X12_line.2.1 129 = .ok (.goto 8, 3) := by decide +kernel
theorem dd_X12_line_132 : decode Y_X12_line.2.1 132 = .ok (.aload_n 0, 1) := by decide +kernel
theorem dd_X12_line_133 : decode Y_X12_line.2.1 133 = .ok (.iconst 1, 1) := by decide +kernel
theorem dd_X12_line_134 : decode Y_X12_line.2.1 134 = .ok (.invokevirtual 219, 3) := by decide +kernel
theorem dd_X12_line_137 : decode Y_X12_line.2.1 137 = .ok (.aload_n 0, 1) := by decide +kernel
theorem dd_X12_line_138 : decode Y_X12_line.2.1 138 = .ok (.aload_n 0, 1) := by decide +kernel
theorem dd_X12_line_139 : decode Y_X12_line.2.1 139 = .ok (.bipush 59, 2) := by decide +kernel
theorem dd_X12_line_141 : decode Y_X12_line.2.1 141 = .ok (.invokevirtual 247, 3) := by decide +kernel
theorem dd_X12_line_144 : decode Y_X12_line.2.1 144 = .ok (.invokevirtual 309, 3) := by decide +kernel
theorem dd_X12_line_147 : decode Y_X12_line.2.1 147 = .ok (.return_, 1) := by decide +kernel
def F_X12_line (t : Nat) (M : zM) : zO := zbI (F_X12_knownWord t M) (fun r1 M1 => zjo (fun  (M16 : zM) => zbI (F_X12_isSign t 59 M16) (fun r4 M17 => zbV (F_X12_need t r4 M17) (fun M18 => zV M18))) (fun (k1 : zM → zO) => zit (r1 = 7) (zbV (F_X12_readsName t M1) (fun M15 => k1 M15)) (zit (r1 = 10) (zbV (F_X12_readsWish t M1) (fun M14 => k1 M14)) (zit (r1 = 11) (zbV (F_X12_readsFair t M1) (fun M13 => k1 M13)) (zjo (fun  (M3 : zM) => zjo (fun  (M5 : zM) => zbI (F_X12_isGood t M5) (fun r2 M6 => zit (r2 = 0) (zV M6) (zst (zup M6 t 31 ((M6 t 31) ||| ((1 : Int32) <<< (r1 &&& 31)))) (fun M7 => zbV (F_X12_goes t M7) (fun M8 => zit (r1 = 12) (zbI (F_X12_number t 1 9 M8) (fun r3 M11 => zst (zup M11 t 29 r3) (fun M12 => k1 M12))) (zst (zup M8 t 30 (M8 t 33)) (fun M9 => zbV (F_X12_expression t M9) (fun M10 => k1 M10)))))))) (fun (k3 : zM → zO) => zit ((((M3 t 31) >>> (r1 &&& 31)) &&& 1) = 1) (zbV (F_X12_wrong t 5 M3) (fun M4 => k3 M4)) (k3 M3))) (fun (k2 : zM → zO) => zit (r1 = 12) (k2 M1) (zit (r1 = 13) (k2 M1) (zbV (F_X12_wrong t 1 M1) (fun M2 => k1 M2)))))))))
set_option maxHeartbeats 1000000 in
set_option maxRecDepth 20000 in
theorem ct_X12_line (l : Launch) (hl : l.stackTraces = false) (G : zG) (t : Nat) (ht : zsh t = 12) (M : zM) : zMt l G Y_X12_line 7 [.ref (G.2.1 + t)] M (F_X12_line t M) := by
  refine zMt_of (by decide +kernel) (Nat.le_of_ble_eq_true rfl) ?_
  show zEv l G Y_X12_line 7 0 0 [(0, .ref (G.2.1 + t))] [] M (zbI (F_X12_knownWord t M) (fun r1 M1 => zjo (fun  (M16 : zM) => zbI (F_X12_isSign t 59 M16) (fun r4 M17 => zbV (F_X12_need t r4 M17) (fun M18 => zV M18))) (fun (k1 : zM → zO) => zit (r1 = 7) (zbV (F_X12_readsName t M1) (fun M15 => k1 M15)) (zit (r1 = 10) (zbV (F_X12_readsWish t M1) (fun M14 => k1 M14)) (zit (r1 = 11) (zbV (F_X12_readsFair t M1) (fun M13 => k1 M13)) (zjo (fun  (M3 : zM) => zjo (fun  (M5 : zM) => zbI (F_X12_isGood t M5) (fun r2 M6 => zit (r2 = 0) (zV M6) (zst (zup M6 t 31 ((M6 t 31) ||| ((1 : Int32) <<< (r1 &&& 31)))) (fun M7 => zbV (F_X12_goes t M7) (fun M8 => zit (r1 = 12) (zbI (F_X12_number t 1 9 M8) (fun r3 M11 => zst (zup M11 t 29 r3) (fun M12 => k1 M12))) (zst (zup M8 t 30 (M8 t 33)) (fun M9 => zbV (F_X12_expression t M9) (fun M10 => k1 M10)))))))) (fun (k3 : zM → zO) => zit ((((M3 t 31) >>> (r1 &&& 31)) &&& 1) = 1) (zbV (F_X12_wrong t 5 M3) (fun M4 => k3 M4)) (k3 M3))) (fun (k2 : zM → zO) => zit (r1 = 12) (k2 M1) (zit (r1 = 13) (k2 M1) (zbV (F_X12_wrong t 1 M1) (fun M2 => k1 M2))))))))))
  refine ev_aload_n dd_X12_line_0 0 rfl ?_
  refine ev_callVI (As := []) cl_RX12_240 (ct_X12_knownWord l hl G t ht M) dd_X12_line_1 ht (by decide) (Nat.le_of_ble_eq_true rfl) (Nat.le_of_ble_eq_true rfl) rfl rfl (fun r1 M1 => ?_)
  refine ev_istore_n (i := 1) (lv' := [(0, .ref (G.2.1 + t)), (1, .int r1)]) [1, 0] dd_X12_line_4 rfl (by decide) rfl ?_
  refine ev_iload_n dd_X12_line_5 1 rfl ?_
  refine ev_bipush (v := 7) dd_X12_line_6 (by decide) ?_
  refine ev_jo (fun (k1 : zM → zO) => ∀  (M16 : zM), zEv l G Y_X12_line 7 0 137 [(0, .ref (G.2.1 + t))] [] M16 (k1 M16)) ?_ (fun k1 hk1 => ?_)
  · intro M16
    refine ev_aload_n dd_X12_line_137 0 rfl ?_
    refine ev_aload_n dd_X12_line_138 0 rfl ?_
    refine ev_lv (lv' := []) [] rfl ?_
    refine ev_bipush (v := 59) dd_X12_line_139 (by decide) ?_
    refine ev_callVI (As := [.int 59]) cl_RX12_247 (ct_X12_isSign l hl G t ht 59 M16) dd_X12_line_141 ht (by decide) (Nat.le_of_ble_eq_true rfl) (Nat.le_of_ble_eq_true rfl) rfl rfl (fun r4 M17 => ?_)
    refine ev_callVV (As := [.int r4]) cl_RX12_309 (ct_X12_need l hl G t ht r4 M17) dd_X12_line_144 ht (by decide) (Nat.le_of_ble_eq_true rfl) (Nat.le_of_ble_eq_true rfl) rfl rfl (fun M18 => ?_)
    exact ev_vret dd_X12_line_147 rfl (Nat.le_of_ble_eq_true rfl) rfl
  · refine ev_icmp_ne 18 dd_X12_line_8 (by decide) ?_ ?_
    · refine ev_iload_n dd_X12_line_18 1 rfl ?_
      refine ev_bipush (v := 10) dd_X12_line_19 (by decide) ?_
      refine ev_icmp_ne 31 dd_X12_line_21 (by decide) ?_ ?_
      · refine ev_iload_n dd_X12_line_31 1 rfl ?_
        refine ev_bipush (v := 11) dd_X12_line_32 (by decide) ?_
        refine ev_icmp_ne 44 dd_X12_line_34 (by decide) ?_ ?_
        · refine ev_iload_n dd_X12_line_44 1 rfl ?_
          refine ev_bipush (v := 12) dd_X12_line_45 (by decide) ?_
          refine ev_jo (fun (k2 : zM → zO) => ∀  (M3 : zM), zEv l G Y_X12_line 7 0 56 [(0, .ref (G.2.1 + t)), (1, .int r1)] [] M3 (k2 M3)) ?_ (fun k2 hk2 => ?_)
          · intro M3
            refine ev_aload_n dd_X12_line_56 0 rfl ?_
            refine ev_getI gf_RX12_297 dd_X12_line_57 ht (by decide) ?_
            refine ev_iload_n dd_X12_line_60 1 rfl ?_
            refine ev_ishr dd_X12_line_61 ?_
            refine ev_iconst (v := 1) dd_X12_line_62 (by decide) ?_
            refine ev_iand dd_X12_line_63 ?_
            refine ev_iconst (v := 1) dd_X12_line_64 (by decide) ?_
            refine ev_jo (fun (k3 : zM → zO) => ∀  (M5 : zM), zEv l G Y_X12_line 7 0 73 [(0, .ref (G.2.1 + t)), (1, .int r1)] [] M5 (k3 M5)) ?_ (fun k3 hk3 => ?_)
            · intro M5
              refine ev_aload_n dd_X12_line_73 0 rfl ?_
              refine ev_callVI (As := []) cl_RX12_212 (ct_X12_isGood l hl G t ht M5) dd_X12_line_74 ht (by decide) (Nat.le_of_ble_eq_true rfl) (Nat.le_of_ble_eq_true rfl) rfl rfl (fun r2 M6 => ?_)
              refine ev_if_ne 81 dd_X12_line_77 (by decide) ?_ ?_
              · refine ev_aload_n dd_X12_line_81 0 rfl ?_
                refine ev_dup dd_X12_line_82 rfl ?_
                refine ev_getI gf_RX12_297 dd_X12_line_83 ht (by decide) ?_
                refine ev_iconst (v := 1) dd_X12_line_86 (by decide) ?_
                refine ev_iload_n dd_X12_line_87 1 rfl ?_
                refine ev_ishl dd_X12_line_88 ?_
                refine ev_ior dd_X12_line_89 ?_
                refine ev_putI gw_RX12_297 dd_X12_line_90 ht (by decide) ?_
                refine ev_st (fun M7 => ?_)
                refine ev_aload_n dd_X12_line_93 0 rfl ?_
                refine ev_callVV (As := []) cl_RX12_216 (ct_X12_goes l hl G t ht M7) dd_X12_line_94 ht (by decide) (Nat.le_of_ble_eq_true rfl) (Nat.le_of_ble_eq_true rfl) rfl rfl (fun M8 => ?_)
                refine ev_iload_n dd_X12_line_97 1 rfl ?_
                refine ev_lv (lv' := [(0, .ref (G.2.1 + t))]) [0] rfl ?_
                refine ev_bipush (v := 12) dd_X12_line_98 (by decide) ?_
                refine ev_icmp_ne 117 dd_X12_line_100 (by decide) ?_ ?_
                · refine ev_aload_n dd_X12_line_117 0 rfl ?_
                  refine ev_aload_n dd_X12_line_118 0 rfl ?_
                  refine ev_getI gf_RX12_225 dd_X12_line_119 ht (by decide) ?_
                  refine ev_putI gw_RX12_303 dd_X12_line_122 ht (by decide) ?_
                  refine ev_st (fun M9 => ?_)
                  refine ev_aload_n dd_X12_line_125 0 rfl ?_
                  refine ev_callVV (As := []) cl_RX12_306 (ct_X12_expression l hl G t ht M9) dd_X12_line_126 ht (by decide) (Nat.le_of_ble_eq_true rfl) (Nat.le_of_ble_eq_true rfl) rfl rfl (fun M10 => ?_)
                  refine ev_goto 137 dd_X12_line_129 (by decide) ?_
                  exact hk1 _
                · refine ev_aload_n dd_X12_line_103 0 rfl ?_
                  refine ev_aload_n dd_X12_line_104 0 rfl ?_
                  refine ev_iconst (v := 1) dd_X12_line_105 (by decide) ?_
                  refine ev_bipush (v := 9) dd_X12_line_106 (by decide) ?_
                  refine ev_callVI (As := [.int 1, .int 9]) cl_RX12_275 (ct_X12_number l hl G t ht 1 9 M8) dd_X12_line_108 ht (by decide) (Nat.le_of_ble_eq_true rfl) (Nat.le_of_ble_eq_true rfl) rfl rfl (fun r3 M11 => ?_)
                  refine ev_putI gw_RX12_300 dd_X12_line_111 ht (by decide) ?_
                  refine ev_st (fun M12 => ?_)
                  refine ev_goto 137 dd_X12_line_114 (by decide) ?_
                  exact hk1 _
              · refine ev_lv (lv' := []) [] rfl ?_
                exact ev_vret dd_X12_line_80 rfl (Nat.le_of_ble_eq_true rfl) rfl
            · refine ev_icmp_ne 73 dd_X12_line_65 (by decide) ?_ ?_
              · exact hk3 _
              · refine ev_aload_n dd_X12_line_68 0 rfl ?_
                refine ev_iconst (v := 5) dd_X12_line_69 (by decide) ?_
                refine ev_callVV (As := [.int 5]) cl_RX12_219 (ct_X12_wrong l hl G t ht 5 M3) dd_X12_line_70 ht (by decide) (Nat.le_of_ble_eq_true rfl) (Nat.le_of_ble_eq_true rfl) rfl rfl (fun M4 => ?_)
                exact hk3 _
          · refine ev_icmp_eq 56 dd_X12_line_47 (by decide) ?_ ?_
            · exact hk2 _
            · refine ev_iload_n dd_X12_line_50 1 rfl ?_
              refine ev_bipush (v := 13) dd_X12_line_51 (by decide) ?_
              refine ev_icmp_ne 132 dd_X12_line_53 (by decide) ?_ ?_
              · refine ev_lv (lv' := [(0, .ref (G.2.1 + t))]) [0] rfl ?_
                refine ev_aload_n dd_X12_line_132 0 rfl ?_
                refine ev_iconst (v := 1) dd_X12_line_133 (by decide) ?_
                refine ev_callVV (As := [.int 1]) cl_RX12_219 (ct_X12_wrong l hl G t ht 1 M1) dd_X12_line_134 ht (by decide) (Nat.le_of_ble_eq_true rfl) (Nat.le_of_ble_eq_true rfl) rfl rfl (fun M2 => ?_)
                exact hk1 _
              · exact hk2 _
        · refine ev_lv (lv' := [(0, .ref (G.2.1 + t))]) [0] rfl ?_
          refine ev_aload_n dd_X12_line_37 0 rfl ?_
          refine ev_callVV (As := []) cl_RX12_294 (ct_X12_readsFair l hl G t ht M1) dd_X12_line_38 ht (by decide) (Nat.le_of_ble_eq_true rfl) (Nat.le_of_ble_eq_true rfl) rfl rfl (fun M13 => ?_)
          refine ev_goto 137 dd_X12_line_41 (by decide) ?_
          exact hk1 _
      · refine ev_lv (lv' := [(0, .ref (G.2.1 + t))]) [0] rfl ?_
        refine ev_aload_n dd_X12_line_24 0 rfl ?_
        refine ev_callVV (As := []) cl_RX12_291 (ct_X12_readsWish l hl G t ht M1) dd_X12_line_25 ht (by decide) (Nat.le_of_ble_eq_true rfl) (Nat.le_of_ble_eq_true rfl) rfl rfl (fun M14 => ?_)
        refine ev_goto 137 dd_X12_line_28 (by decide) ?_
        exact hk1 _
    · refine ev_lv (lv' := [(0, .ref (G.2.1 + t))]) [0] rfl ?_
      refine ev_aload_n dd_X12_line_11 0 rfl ?_
      refine ev_callVV (As := []) cl_RX12_288 (ct_X12_readsName l hl G t ht M1) dd_X12_line_12 ht (by decide) (Nat.le_of_ble_eq_true rfl) (Nat.le_of_ble_eq_true rfl) rfl rfl (fun M15 => ?_)
      refine ev_goto 137 dd_X12_line_15 (by decide) ?_
      exact hk1 _
/-! X12_sells -/
theorem dd_X12_sells_0 : decode Y_X12_sells.2.1 0 = .ok (.aload_n 0, 1) := by decide +kernel
theorem dd_X12_sells_1 : decode Y_X12_sells.2.1 1 = .ok (.iconst 0, 1) := by decide +kernel
theorem dd_X12_sells_2 : decode Y_X12_sells.2.1 2 = .ok (.putfield 453, 3) := by decide +kernel
theorem dd_X12_sells_5 : decode Y_X12_sells.2.1 5 = .ok (.iconst 0, 1) := by decide +kernel
theorem dd_X12_sells_6 : decode Y_X12_sells.2.1 6 = .ok (.istore_n 2, 1) := by decide +kernel
theorem dd_X12_sells_7 : decode Y_X12_sells.2.1 7 = .ok (.iload_n 2, 1) := by decide +kernel
theorem dd_X12_sells_8 : decode Y_X12_sells.2.1 8 = .ok (.aload_n 0, 1) := by decide +kernel
theorem dd_X12_sells_9 : decode Y_X12_sells.2.1 9 = .ok (.getfield 319, 3) := by decide +kernel
theorem dd_X12_sells_12 : decode Y_X12_sells.2.1 12 = .ok (.if_icmp .ge 52, 3) := by decide +kernel
theorem dd_X12_sells_15 : decode Y_X12_sells.2.1 15 = .ok (.iload_n 2, 1) := by decide +kernel
theorem dd_X12_sells_16 : decode Y_X12_sells.2.1 16 = .ok (.iconst 1, 1) := by decide +kernel
theorem dd_X12_sells_17 : decode Y_X12_sells.2.1 17 = .ok (.iadd, 1) := by decide +kernel
theorem dd_X12_sells_18 : decode Y_X12_sells.2.1 18 = .ok (.istore_n 3, 1) := by decide +kernel
theorem dd_X12_sells_19 : decode Y_X12_sells.2.1 19 = .ok (.iload_n 3, 1) := by decide +kernel
theorem dd_X12_sells_20 : decode Y_X12_sells.2.1 20 = .ok (.aload_n 0, 1) := by decide +kernel
theorem dd_X12_sells_21 : decode Y_X12_sells.2.1 21 = .ok (.getfield 319, 3) := by decide +kernel
theorem dd_X12_sells_24 : decode Y_X12_sells.2.1 24 = .ok (.if_icmp .ge 34, 3) := by decide +kernel
theorem dd_X12_sells_27 : decode Y_X12_sells.2.1 27 = .ok (.aload_n 0, 1) := by decide +kernel
theorem dd_X12_sells_28 : decode Y_X12_sells.2.1 28 = .ok (.getfield 132, 3) := by decide +kernel
theorem dd_X12_sells_31 : decode Y_X12_sells.2.1 31 = .ok (.aload_n 0, 1) := by decide +kernel
theorem dd_X12_sells_32 : decode Y_X12_sells.2.1 32 = .ok (.getfield 453, 3) := by decide +kernel
theorem dd_X12_sells_35 : decode Y_X12_sells.2.1 35 = .ok (.bipush 10, 2) := by decide +kernel
theorem dd_X12_sells_37 : decode Y_X12_sells.2.1 37 = .ok (.iload_n 2, 1) := by decide +kernel
theorem dd_X12_sells_38 : decode Y_X12_sells.2.1 38 = .ok (.imul, 1) := by decide +kernel
theorem dd_X12_sells_39 : decode Y_X12_sells.2.1 39 = .ok (.iload_n 3, 1) := by decide +kernel
theorem dd_X12_sells_40 : decode Y_X12_sells.2.1 40 = .ok (.iadd, 1) := by decide +kernel
theorem dd_X12_sells_41 : decode Y_X12_sells.2.1 41 = .ok (.iastore, 1) := by decide +kernel
theorem dd_X12_sells_42 : decode Y_X12_sells.2.1 42 = .ok (.aload_n 0, 1) := by decide +kernel
theorem dd_X12_sells_43 : decode Y_X12_sells.2.1 43 = .ok (.dup, 1) := by decide +kernel
theorem dd_X12_sells_44 : decode Y_X12_sells.2.1 44 = .ok (.getfield 453, 3) := by decide +kernel
theorem dd_X12_sells_47 : decode Y_X12_sells.2.1 47 = .ok (.iconst 1, 1) := by decide +kernel
theorem dd_X12_sells_48 : decode Y_X12_sells.2.1 48 = .ok (.iadd, 1) := by decide +kernel
theorem dd_X12_sells_49 : decode Y_X12_sells.2.1 49 = .ok (.putfield 453, 3) := by decide +kernel
theorem dd_X12_sells_52 : decode Y_X12_sells.2.1 52 = .ok (.iinc 3 1, 3) := by decide +kernel
theorem dd_X12_sells_55 : decode Y_X12_sells.2.1 55 = .ok (.goto (-36), 3) := by decide +kernel
theorem dd_X12_sells_58 : decode Y_X12_sells.2.1 58 = .ok (.iinc 2 1, 3) := by decide +kernel
theorem dd_X12_sells_61 : decode Y_X12_sells.2.1 61 = .ok (.goto (-54), 3) := by decide +kernel
theorem dd_X12_sells_64 : decode Y_X12_sells.2.1 64 = .ok (.iconst 0, 1) := by decide +kernel
theorem dd_X12_sells_65 : decode Y_X12_sells.2.1 65 = .ok (.istore_n 2, 1) := by decide +kernel
theorem dd_X12_sells_66 : decode Y_X12_sells.2.1 66 = .ok (.iload_n 2, 1) := by decide +kernel
theorem dd_X12_sells_67 : decode Y_X12_sells.2.1 67 = .ok (.bipush 64, 2) := by decide +kernel
theorem dd_X12_sells_69 : decode Y_X12_sells.2.1 69 = .ok (.if_icmp .ge 16, 3) := by decide +kernel
theorem dd_X12_sells_72 : decode Y_X12_sells.2.1 72 = .ok (.aload_n 0, 1) := by decide +kernel
theorem dd_X12_sells_73 : decode Y_X12_sells.2.1 73 = .ok (.getfield 141, 3) := by decide +kernel
theorem dd_X12_sells_76 : decode Y_X12_sells.2.1 76 = .ok (.iload_n 2, 1) := by decide +kernel
theorem dd_X12_sells_77 : decode Y_X12_sells.2.1 77 = .ok (.iconst 0, 1) := by decide +kernel
theorem dd_X12_sells_78 : decode Y_X12_sells.2.1 78 = .ok (.iastore, 1) := by decide +kernel
theorem dd_X12_sells_79 : decode Y_X12_sells.2.1 79 = .ok (.iinc 2 1, 3) := by decide +kernel
theorem dd_X12_sells_82 : decode Y_X12_sells.2.1 82 = .ok (.goto (-16), 3) := by decide +kernel
theorem dd_X12_sells_85 : decode Y_X12_sells.2.1 85 = .ok (.aload_n 0, 1) := by decide +kernel
theorem dd_X12_sells_86 : decode Y_X12_sells.2.1 86 = .ok (.iconst 0, 1) := by decide +kernel
theorem dd_X12_sells_87 : decode Y_X12_sells.2.1 87 = .ok (.putfield 456, 3) := by decide +kernel
theorem dd_X12_sells_90 : decode Y_X12_sells.2.1 90 = .ok (.iconst 1, 1) := by decide +kernel
theorem dd_X12_sells_91 : decode Y_X12_sells.2.1 91 = .ok (.istore_n 2, 1) := by decide +kernel
theorem dd_X12_sells_92 : decode Y_X12_sells.2.1 92 = .ok (.iconst 0, 1) := by decide +kernel
theorem dd_X12_sells_93 : decode Y_X12_sells.2.1 93 = .ok (.istore_n 3, 1) := by decide +kernel
theorem dd_X12_sells_94 : decode Y_X12_sells.2.1 94 = .ok (.iload_n 3, 1) := by decide +kernel
theorem dd_X12_sells_95 : decode Y_X12_sells.2.1 95 = .ok (.iload_n 1, 1) := by decide +kernel
theorem dd_X12_sells_96 : decode Y_X12_sells.2.1 96 = .ok (.if_icmp .ge 16, 3) := by decide +kernel
theorem dd_X12_sells_99 : decode Y_X12_sells.2.1 99 = .ok (.iload_n 2, 1) := by decide +kernel
theorem dd_X12_sells_100 : decode Y_X12_sells.2.1 100 = .ok (.aload_n 0, 1) := by decide +kernel
theorem dd_X12_sells_101 : decode Y_X12_sells.2.1 101 = .ok (.getfield 453, 3) := by decide +kernel
theorem dd_X12_sells_104 : decode Y_X12_sells.2.1 104 = .ok (.imul, 1) := by decide +kernel
theorem dd_X12_sells_105 : decode Y_X12_sells.2.1 105 = .ok (.istore_n 2, 1) := by decide +kernel
theorem dd_X12_sells_106 : decode Y_X12_sells.2.1 106 = .ok (.iinc 3 1, 3) := by decide +kernel
theorem dd_X12_sells_109 : decode Y_X12_sells.2.1 109 = .ok (.goto (-15), 3) := by decide +kernel
theorem dd_X12_sells_112 : decode Y_X12_sells.2.1 112 = .ok (.iconst 0, 1) := by decide +kernel
theorem dd_X12_sells_113 : decode Y_X12_sells.2.1 113 = .ok (.istore_n 3, 1) := by decide +kernel
theorem dd_X12_sells_114 : decode Y_X12_sells.2.1 114 = .ok (.iload_n 3, 1) := by decide +kernel
theorem dd_X12_sells_115 : decode Y_X12_sells.2.1 115 = .ok (.iload_n 2, 1) := by decide +kernel
theorem dd_X12_sells_116 : decode Y_X12_sells.2.1 116 = .ok (.if_icmp .ge 284, 3) := by decide +kernel
theorem dd_X12_sells_119 : decode Y_X12_sells.2.1 119 = .ok (.iload_n 3, 1) := by decide +kernel
theorem dd_X12_sells_120 : decode Y_X12_sells.2.1 120 = .ok (.istore 4, 2) := by decide +kernel
theorem dd_X12_sells_122 : decode Y_X12_sells.2.1 122 = .ok (.iload_n 1, 1) := by decide +kernel
theorem dd_X12_sells_123 : decode Y_X12_sells.2.1 123 = .ok (.iconst 1, 1) := by decide +kernel
theorem dd_X12_sells_124 : decode Y_X12_sells.2.1 124 = .ok (.isub, 1) := by decide +kernel
theorem dd_X12_sells_125 : decode Y_X12_sells.2.1 125 = .ok (.istore 5, 2) := by decide +kernel
theorem dd_X12_sells_127 : decode Y_X12_sells.2.1 127 = .ok (.iload 5, 2) := by decide +kernel
theorem dd_X12_sells_129 : decode Y_X12_sells.2.1 129 = .ok (.ifCond .lt 37, 3) := by decide +kernel
theorem dd_X12_sells_132 : decode Y_X12_sells.2.1 132 = .ok (.aload_n 0, 1) := by decide +kernel
theorem dd_X12_sells_133 : decode Y_X12_sells.2.1 133 = .ok (.getfield 135, 3) := by decide +kernel
theorem dd_X12_sells_136 : decode Y_X12_sells.2.1 136 = .ok (.iload 5, 2) := by decide +kernel
theorem dd_X12_sells_138 : decode Y_X12_sells.2.1 138 = .ok (.aload_n 0, 1) := by decide +kernel
theorem dd_X12_sells_139 : decode Y_X12_sells.2.1 139 = .ok (.getfield 132, 3) := by decide +kernel
theorem dd_X12_sells_142 : decode Y_X12_sells.2.1 142 = .ok (.iload 4, 2) := by decide +kernel
theorem dd_X12_sells_144 : decode Y_X12_sells.2.1 144 = .ok (.aload_n 0, 1) := by decide +kernel
theorem dd_X12_sells_145 : decode Y_X12_sells.2.1 145 = .ok (.getfield 453, 3) := by decide +kernel
theorem dd_X12_sells_148 : decode Y_X12_sells.2.1 148 = .ok (.irem, 1) := by decide +kernel
theorem dd_X12_sells_149 : decode Y_X12_sells.2.1 149 = .ok (.iaload, 1) := by decide +kernel
theorem dd_X12_sells_150 : decode Y_X12_sells.2.1 150 = .ok (.iastore, 1) := by decide +kernel
theorem dd_X12_sells_151 : decode Y_X12_sells.2.1 151 = .ok (.iload 4, 2) := by decide +kernel
theorem dd_X12_sells_153 : decode Y_X12_sells.2.1 153 = .ok (.aload_n 0, 1) := by decide +kernel
theorem dd_X12_sells_154 : decode Y_X12_sells.2.1 154 = .ok (.getfield 453, 3) := by decide +kernel
theorem dd_X12_sells_157 : decode Y_X12_sells.2.1 157 = .ok (.idiv, 1) := by decide +kernel
theorem dd_X12_sells_158 : decode Y_X12_sells.2.1 158 = .ok (.istore 4, 2) := by decide +kernel
theorem dd_X12_sells_160 : decode Y_X12_sells.2.1 160 = .ok (.iinc 5 (-1), 3) := by decide +kernel
theorem dd_X12_sells_163 : decode Y_X12_sells.2.1 163 = .ok (.goto (-36), 3) := by decide +kernel
theorem dd_X12_sells_166 : decode Y_X12_sells.2.1 166 = .ok (.aload_n 0, 1) := by decide +kernel
theorem dd_X12_sells_167 : decode Y_X12_sells.2.1 167 = .ok (.aload_n 0, 1) := by decide +kernel
theorem dd_X12_sells_168 : decode Y_X12_sells.2.1 168 = .ok (.getfield 87, 3) := by decide +kernel
theorem dd_X12_sells_171 : decode Y_X12_sells.2.1 171 = .ok (.aload_n 0, 1) := by decide +kernel
theorem dd_X12_sells_172 : decode Y_X12_sells.2.1 172 = .ok (.getfield 90, 3) := by decide +kernel
theorem dd_X12_sells_175 : decode Y_X12_sells.2.1 175 = .ok (.invokevirtual 325, 3) := by decide +kernel
theorem dd_X12_sells_178 : decode Y_X12_sells.2.1 178 = .ok (.iconst 1, 1) := by decide +kernel
theorem dd_X12_sells_179 : decode Y_X12_sells.2.1 179 = .ok (.istore 5, 2) := by decide +kernel
theorem dd_X12_sells_181 : decode Y_X12_sells.2.1 181 = .ok (.iconst 0, 1) := by decide +kernel
theorem dd_X12_sells_182 : decode Y_X12_sells.2.1 182 = .ok (.istore 6, 2) := by decide +kernel
theorem dd_X12_sells_184 : decode Y_X12_sells.2.1 184 = .ok (.iload 6, 2) := by decide +kernel
theorem dd_X12_sells_186 : decode Y_X12_sells.2.1 186 = .ok (.iload_n 1, 1) := by decide +kernel
theorem dd_X12_sells_187 : decode Y_X12_sells.2.1 187 = .ok (.if_icmp .ge 72, 3) := by decide +kernel
theorem dd_X12_sells_190 : decode Y_X12_sells.2.1 190 = .ok (.iload 5, 2) := by decide +kernel
theorem dd_X12_sells_192 : decode Y_X12_sells.2.1 192 = .ok (.ifCond .eq 67, 3) := by decide +kernel
theorem dd_X12_sells_195 : decode Y_X12_sells.2.1 195 = .ok (.aload_n 0, 1) := by decide +kernel
theorem dd_X12_sells_196 : decode Y_X12_sells.2.1 196 = .ok (.aload_n 0, 1) := by decide +kernel
theorem dd_X12_sells_197 : decode Y_X12_sells.2.1 197 = .ok (.getfield 90, 3) := by decide +kernel
theorem dd_X12_sells_200 : decode Y_X12_sells.2.1 200 = .ok (.aload_n 0, 1) := by decide +kernel
theorem dd_X12_sells_201 : decode Y_X12_sells.2.1 201 = .ok (.getfield 135, 3) := by decide +kernel
theorem dd_X12_sells_204 : decode Y_X12_sells.2.1 204 = .ok (.iload 6, 2) := by decide +kernel
theorem dd_X12_sells_206 : decode Y_X12_sells.2.1 206 = .ok (.iaload, 1) := by decide +kernel
theorem dd_X12_sells_207 : decode Y_X12_sells.2.1 207 = .ok (.bipush 10, 2) := by decide +kernel
theorem dd_X12_sells_209 : decode Y_X12_sells.2.1 209 = .ok (.idiv, 1) := by decide +kernel
theorem dd_X12_sells_210 : decode Y_X12_sells.2.1 210 = .ok (.aload_n 0, 1) := by decide +kernel
theorem dd_X12_sells_211 : decode Y_X12_sells.2.1 211 = .ok (.getfield 135, 3) := by decide +kernel
theorem dd_X12_sells_214 : decode Y_X12_sells.2.1 214 = .ok (.iload 6, 2) := by decide +kernel
theorem dd_X12_sells_216 : decode Y_X12_sells.2.1 216 = .ok (.iaload, 1) := by decide +kernel
theorem dd_X12_sells_217 : decode Y_X12_sells.2.1 217 = .ok (.bipush 10, 2) := by decide +kernel
theorem dd_X12_sells_219 : decode Y_X12_sells.2.1 219 = .ok (.irem, 1) := by decide +kernel
theorem dd_X12_sells_220 : decode Y_X12_sells.2.1 220 = .ok (.invokevirtual 381, 3) := by decide +kernel
theorem dd_X12_sells_223 : decode Y_X12_sells.2.1 223 = .ok (.istore 5, 2) := by decide +kernel
theorem dd_X12_sells_225 : decode Y_X12_sells.2.1 225 = .ok (.aload_n 0, 1) := by decide +kernel
theorem dd_X12_sells_226 : decode Y_X12_sells.2.1 226 = .ok (.aload_n 0, 1) := by decide +kernel
theorem dd_X12_sells_227 : decode Y_X12_sells.2.1 227 = .ok (.getfield 90, 3) := by decide +kernel
theorem dd_X12_sells_230 : decode Y_X12_sells.2.1 230 = .ok (.aload_n 0, 1) := by decide +kernel
theorem dd_X12_sells_231 : decode Y_X12_sells.2.1 231 = .ok (.getfield 135, 3) := by decide +kernel
theorem dd_X12_sells_234 : decode Y_X12_sells.2.1 234 = .ok (.iload 6, 2) := by decide +kernel
theorem dd_X12_sells_236 : decode Y_X12_sells.2.1 236 = .ok (.iaload, 1) := by decide +kernel
theorem dd_X12_sells_237 : decode Y_X12_sells.2.1 237 = .ok (.bipush 10, 2) := by decide +kernel
theorem dd_X12_sells_239 : decode Y_X12_sells.2.1 239 = .ok (.idiv, 1) := by decide +kernel
theorem dd_X12_sells_240 : decode Y_X12_sells.2.1 240 = .ok (.aload_n 0, 1) := by decide +kernel
theorem dd_X12_sells_241 : decode Y_X12_sells.2.1 241 = .ok (.getfield 135, 3) := by decide +kernel
theorem dd_X12_sells_244 : decode Y_X12_sells.2.1 244 = .ok (.iload 6, 2) := by decide +kernel
theorem dd_X12_sells_246 : decode Y_X12_sells.2.1 246 = .ok (.iaload, 1) := by decide +kernel
theorem dd_X12_sells_247 : decode Y_X12_sells.2.1 247 = .ok (.bipush 10, 2) := by decide +kernel
theorem dd_X12_sells_249 : decode Y_X12_sells.2.1 249 = .ok (.irem, 1) := by decide +kernel
theorem dd_X12_sells_250 : decode Y_X12_sells.2.1 250 = .ok (.invokevirtual 377, 3) := by decide +kernel
theorem dd_X12_sells_253 : decode Y_X12_sells.2.1 253 = .ok (.iinc 6 1, 3) := by decide +kernel
theorem dd_X12_sells_256 : decode Y_X12_sells.2.1 256 = .ok (.goto (-72), 3) := by decide +kernel
theorem dd_X12_sells_259 : decode Y_X12_sells.2.1 259 = .ok (.iconst 0, 1) := by decide +kernel
theorem dd_X12_sells_260 : decode Y_X12_sells.2.1 260 = .ok (.istore 6, 2) := by decide +kernel
theorem dd_X12_sells_262 : decode Y_X12_sells.2.1 262 = .ok (.iload 6, 2) := by decide +kernel
theorem dd_X12_sells_264 : decode Y_X12_sells.2.1 264 = .ok (.aload_n 0, 1) := by decide +kernel
theorem dd_X12_sells_265 : decode Y_X12_sells.2.1 265 = .ok (.getfield 332, 3) := by decide +kernel
theorem dd_X12_sells_268 : decode Y_X12_sells.2.1 268 = .ok (.if_icmp .ge 49, 3) := by decide +kernel
theorem dd_X12_sells_271 : decode Y_X12_sells.2.1 271 = .ok (.iload 5, 2) := by decide +kernel
theorem dd_X12_sells_273 : decode Y_X12_sells.2.1 273 = .ok (.ifCond .eq 44, 3) := by decide +kernel
theorem dd_X12_sells_276 : decode Y_X12_sells.2.1 276 = .ok (.aload_n 0, 1) := by decide +kernel
theorem dd_X12_sells_277 : decode Y_X12_sells.2.1 277 = .ok (.getfield 90, 3) := by decide +kernel
theorem dd_X12_sells_280 : decode Y_X12_sells.2.1 280 = .ok (.aload_n 0, 1) := by decide +kernel
theorem dd_X12_sells_281 : decode Y_X12_sells.2.1 281 = .ok (.getfield 129, 3) := by decide +kernel
theorem dd_X12_sells_284 : decode Y_X12_sells.2.1 284 = .ok (.iconst 2, 1) := by decide +kernel
theorem dd_X12_sells_285 : decode Y_X12_sells.2.1 285 = .ok (.iload 6, 2) := by decide +kernel
theorem dd_X12_sells_287 : decode Y_X12_sells.2.1 287 = .ok (.imul, 1) := by decide +kernel
theorem dd_X12_sells_288 : decode Y_X12_sells.2.1 288 = .ok (.iaload, 1) := by decide +kernel
theorem dd_X12_sells_289 : decode Y_X12_sells.2.1 289 = .ok (.iaload, 1) := by decide +kernel
theorem dd_X12_sells_290 : decode Y_X12_sells.2.1 290 = .ok (.aload_n 0, 1) := by decide +kernel
theorem dd_X12_sells_291 : decode Y_X12_sells.2.1 291 = .ok (.getfield 129, 3) := by decide +kernel
theorem dd_X12_sells_294 : decode Y_X12_sells.2.1 294 = .ok (.iconst 2, 1) := by decide +kernel
theorem dd_X12_sells_295 : decode Y_X12_sells.2.1 295 = .ok (.iload 6, 2) := by decide +kernel
theorem dd_X12_sells_297 : decode Y_X12_sells.2.1 297 = .ok (.imul, 1) := by decide +kernel
theorem dd_X12_sells_298 : decode Y_X12_sells.2.1 298 = .ok (.iconst 1, 1) := by decide +kernel
theorem dd_X12_sells_299 : decode Y_X12_sells.2.1 299 = .ok (.iadd, 1) := by decide +kernel
theorem dd_X12_sells_300 : decode Y_X12_sells.2.1 300 = .ok (.iaload, 1) := by decide +kernel
theorem dd_X12_sells_301 : decode Y_X12_sells.2.1 301 = .ok (.if_icmp .ne 7, 3) := by decide +kernel
theorem dd_X12_sells_304 : decode Y_X12_sells.2.1 304 = .ok (.iconst 1, 1) := by decide +kernel
theorem dd_X12_sells_305 : decode Y_X12_sells.2.1 305 = .ok (.goto 4, 3) := by decide +kernel
theorem dd_X12_sells_308 : decode Y_X12_sells.2.1 308 = .ok (.iconst 0, 1) := by decide +kernel
theorem dd_X12_sells_309 : decode Y_X12_sells.2.1 309 = .ok (.istore 5, 2) := by decide +kernel
theorem dd_X12_sells_311 : decode Y_X12_sells.2.1 311 = .ok (.iinc 6 1, 3) := by decide +kernel
theorem dd_X12_sells_314 : decode Y_X12_sells.2.1 314 = .ok (.goto (-52), 3) := by decide +kernel
theorem dd_X12_sells_317 : decode Y_X12_sells.2.1 317 = .ok (.iload 5, 2) := by decide +kernel
theorem dd_X12_sells_319 : decode Y_X12_sells.2.1 319 = .ok (.ifCond .ne 6, 3) := by decide +kernel
theorem dd_X12_sells_322 : decode Y_X12_sells.2.1 322 = .ok (.goto 72, 3) := by decide +kernel
theorem dd_X12_sells_325 : decode Y_X12_sells.2.1 325 = .ok (.aload_n 0, 1) := by decide +kernel
theorem dd_X12_sells_326 : decode Y_X12_sells.2.1 326 = .ok (.getfield 456, 3) := by decide +kernel
theorem dd_X12_sells_329 : decode Y_X12_sells.2.1 329 = .ok (.ifCond .ne 15, 3) := by decide +kernel
theorem dd_X12_sells_332 : decode Y_X12_sells.2.1 332 = .ok (.aload_n 0, 1) := by decide +kernel
theorem dd_X12_sells_333 : decode Y_X12_sells.2.1 333 = .ok (.aload_n 0, 1) := by decide +kernel
theorem dd_X12_sells_334 : decode Y_X12_sells.2.1 334 = .ok (.getfield 135, 3) := by decide +kernel
theorem dd_X12_sells_337 : decode Y_X12_sells.2.1 337 = .ok (.aload_n 0, 1) := by decide +kernel
theorem dd_X12_sells_338 : decode Y_X12_sells.2.1 338 = .ok (.getfield 138, 3) := by decide +kernel
theorem dd_X12_sells_341 : decode Y_X12_sells.2.1 341 = .ok (.invokevirtual 325, 3) := by decide +kernel
theorem dd_X12_sells_344 : decode Y_X12_sells.2.1 344 = .ok (.aload_n 0, 1) := by decide +kernel
theorem dd_X12_sells_345 : decode Y_X12_sells.2.1 345 = .ok (.dup, 1) := by decide +kernel
theorem dd_X12_sells_346 : decode Y_X12_sells.2.1 346 = .ok (.getfield 456, 3) := by decide +kernel
theorem dd_X12_sells_349 : decode Y_X12_sells.2.1 349 = .ok (.iconst 1, 1) := by decide +kernel
theorem dd_X12_sells_350 : decode Y_X12_sells.2.1 350 = .ok (.iadd, 1) := by decide +kernel
theorem dd_X12_sells_351 : decode Y_X12_sells.2.1 351 = .ok (.putfield 456, 3) := by decide +kernel
theorem dd_X12_sells_354 : decode Y_X12_sells.2.1 354 = .ok (.iconst 0, 1) := by decide +kernel
theorem dd_X12_sells_355 : decode Y_X12_sells.2.1 355 = .ok (.istore 6, 2) := by decide +kernel
theorem dd_X12_sells_357 : decode Y_X12_sells.2.1 357 = .ok (.iload 6, 2) := by decide +kernel
theorem dd_X12_sells_359 : decode Y_X12_sells.2.1 359 = .ok (.aload_n 0, 1) := by decide +kernel
theorem dd_X12_sells_360 : decode Y_X12_sells.2.1 360 = .ok (.getfield 319, 3) := by decide +kernel
theorem dd_X12_sells_363 : decode Y_X12_sells.2.1 363 = .ok (.if_icmp .ge 31, 3) := by decide +kernel
theorem dd_X12_sells_366 : decode Y_X12_sells.2.1 366 = .ok (.aload_n 0, 1) := by decide +kernel
theorem dd_X12_sells_367 : decode Y_X12_sells.2.1 367 = .ok (.getfield 141, 3) := by decide +kernel
theorem dd_X12_sells_370 : decode Y_X12_sells.2.1 370 = .ok (.bipush 8, 2) := by decide +kernel
theorem dd_X12_sells_372 : decode Y_X12_sells.2.1 372 = .ok (.iload 6, 2) := by decide +kernel
theorem dd_X12_sells_374 : decode Y_X12_sells.2.1 374 = .ok (.imul, 1) := by decide +kernel
theorem dd_X12_sells_375 : decode Y_X12_sells.2.1 375 = .ok (.aload_n 0, 1) := by decide +kernel
theorem dd_X12_sells_376 : decode Y_X12_sells.2.1 376 = .ok (.getfield 90, 3) := by decide +kernel
theorem dd_X12_sells_379 : decode Y_X12_sells.2.1 379 = .ok (.iload 6, 2) := by decide +kernel
theorem dd_X12_sells_381 : decode Y_X12_sells.2.1 381 = .ok (.iaload, 1) := by decide +kernel
theorem dd_X12_sells_382 : decode Y_X12_sells.2.1 382 = .ok (.iadd, 1) := by decide +kernel
theorem dd_X12_sells_383 : decode Y_X12_sells.2.1 383 = .ok (.dup2, 1) := by decide +kernel
theorem dd_X12_sells_384 : decode Y_X12_sells.2.1 384 = .ok (.iaload, 1) := by decide +kernel
theorem dd_X12_sells_385 : decode Y_X12_sells.2.1 385 = .ok (.iconst 1, 1) := by decide +kernel
theorem dd_X12_sells_386 : decode Y_X12_sells.2.1 386 = .ok (.iadd, 1) := by decide +kernel
theorem dd_X12_sells_387 : decode Y_X12_sells.2.1 387 = .ok (.iastore, 1) := by decide +kernel
theorem dd_X12_sells_388 : decode Y_X12_sells.2.1 388 = .ok (.iinc 6 1, 3) := by decide +kernel
theorem dd_X12_sells_391 : decode Y_X12_sells.2.1 391 = .ok (.goto (-34), 3) := by decide +kernel
theorem dd_X12_sells_394 : decode Y_X12_sells.2.1 394 = .ok (.iinc 3 1, 3) := by decide +kernel
theorem dd_X12_sells_397 : decode Y_X12_sells.2.1 397 = .ok (.goto (-283), 3) := by decide +kernel
theorem dd_X12_sells_400 : decode Y_X12_sells.2.1 400 = .ok (.return_, 1) := by decide +kernel
def F_X12_sells_L19 (x0 : Nat) (x1 : Int32) (x2 : Int32) (K58 : zM → zO) : Nat → Int32 → zM → zO
  | 0, _, _ => none
  | n + 1, x3, M => zit ((M x0 1) ≤ x3) (K58 M) (zck (zin (M x0 70) 28) (zst (zup M (zgr x0 66) (zix (M x0 70)) ((10 * x2) + x3)) (fun M2 => zst (zup M2 x0 70 ((M2 x0 70) + 1)) (fun M3 => F_X12_sells_L19 x0 x1 x2 K58 n (x3 + 1) M3))))
def F_X12_sells_L7 (x0 : Nat) (x1 : Int32) (K64 : zM → zO) : Nat → Int32 → zM → zO
  | 0, _, _ => none
  | n + 1, x2, M => zit ((M x0 1) ≤ x2) (K64 M) (zlt (x2 + 1) (fun v1 => F_X12_sells_L19 x0 x1 x2 (fun  (M4 : zM) => F_X12_sells_L7 x0 x1 K64 n (x2 + 1) M4) zN v1 M))
def F_X12_sells_L66 (x0 : Nat) (x1 : Int32) (K85 : zM → zO) : Nat → Int32 → zM → zO
  | 0, _, _ => none
  | n + 1, x2, M => zit (64 ≤ x2) (K85 M) (zck (zin x2 64) (zst (zup M (zgr x0 69) (zix x2) 0) (fun M6 => F_X12_sells_L66 x0 x1 K85 n (x2 + 1) M6)))
def F_X12_sells_L94 (x0 : Nat) (x1 : Int32) (K112 : Int32 → zM → zO) : Nat → Int32 → Int32 → zM → zO
  | 0, _, _, _ => none
  | n + 1, x2, x3, M => zit (x1 ≤ x3) (K112 x2 M) (zlt (x2 * (M x0 70)) (fun v2 => F_X12_sells_L94 x0 x1 K112 n v2 (x3 + 1) M))
def F_X12_sells_L127 (x0 : Nat) (x1 : Int32) (x2 : Int32) (x3 : Int32) (K166 : zM → zO) : Nat → Int32 → Int32 → zM → zO
  | 0, _, _, _ => none
  | n + 1, x4, x5, M => zit (x5 < 0) (K166 M) (zck (!decide ((M x0 70) = 0)) (zck (zin (x4 - x4 / (M x0 70) * (M x0 70)) 28) (zck (zin x5 3) (zst (zup M (zgr x0 67) (zix x5) (M (zgr x0 66) (zix (x4 - x4 / (M x0 70) * (M x0 70))))) (fun M10 => zck (!decide ((M10 x0 70) = 0)) (zlt (x4 / (M10 x0 70)) (fun v4 => F_X12_sells_L127 x0 x1 x2 x3 K166 n v4 (x5 + (-1)) M10)))))))
def F_X12_sells_L184 (x0 : Nat) (x1 : Int32) (x2 : Int32) (x3 : Int32) (K259 : Int32 → zM → zO) : Nat → Int32 → Int32 → zM → zO
  | 0, _, _, _ => none
  | n + 1, x5, x6, M => zit (x1 ≤ x6) (K259 x5 M) (zit (x5 = 0) (K259 x5 M) (zck (zin x6 3) (zck (!decide (10 = 0)) (zck (zin x6 3) (zck (!decide (10 = 0)) (zbI (F_X12_maySwap x0 (zgr x0 48) ((M (zgr x0 67) (zix x6)) / 10) ((M (zgr x0 67) (zix x6)) - (M (zgr x0 67) (zix x6)) / 10 * 10) M) (fun r1 M13 => zck (zin x6 3) (zck (!decide (10 = 0)) (zck (zin x6 3) (zck (!decide (10 = 0)) (zbV (F_X12_changes x0 (zgr x0 48) ((M13 (zgr x0 67) (zix x6)) / 10) ((M13 (zgr x0 67) (zix x6)) - (M13 (zgr x0 67) (zix x6)) / 10 * 10) M13) (fun M14 => F_X12_sells_L184 x0 x1 x2 x3 K259 n r1 (x6 + 1) M14))))))))))))
def F_X12_sells_L262 (x0 : Nat) (x1 : Int32) (x2 : Int32) (x3 : Int32) (K317 : Int32 → zM → zO) : Nat → Int32 → Int32 → zM → zO
  | 0, _, _, _ => none
  | n + 1, x5, x6, M => zit ((M x0 64) ≤ x6) (K317 x5 M) (zit (x5 = 0) (K317 x5 M) (zck (zin (2 * x6) 16) (zck (zin (M (zgr x0 65) (zix (2 * x6))) 73) (zck (zin ((2 * x6) + 1) 16) (zjo (fun (w1 : Int32) (M16 : zM) => F_X12_sells_L262 x0 x1 x2 x3 K317 n w1 (x6 + 1) M16) (fun (k1 : Int32 → zM → zO) => zit ((M (zgr x0 48) (zix (M (zgr x0 65) (zix (2 * x6))))) = (M (zgr x0 65) (zix ((2 * x6) + 1)))) (k1 1 M) (k1 0 M)))))))
def F_X12_sells_L357 (x0 : Nat) (x1 : Int32) (x2 : Int32) (x3 : Int32) (K394 : zM → zO) : Nat → Int32 → zM → zO
  | 0, _, _ => none
  | n + 1, x6, M => zit ((M x0 1) ≤ x6) (K394 M) (zck (zin x6 73) (zck (zin ((8 * x6) + (M (zgr x0 48) (zix x6))) 64) (zck (zin ((8 * x6) + (M (zgr x0 48) (zix x6))) 64) (zst (zup M (zgr x0 69) (zix ((8 * x6) + (M (zgr x0 48) (zix x6)))) ((M (zgr x0 69) (zix ((8 * x6) + (M (zgr x0 48) (zix x6))))) + 1)) (fun M21 => F_X12_sells_L357 x0 x1 x2 x3 K394 n (x6 + 1) M21)))))
def F_X12_sells_L114 (x0 : Nat) (x1 : Int32) (x2 : Int32) (K400 : zM → zO) : Nat → Int32 → zM → zO
  | 0, _, _ => none
  | n + 1, x3, M => zit (x2 ≤ x3) (K400 M) (zlt (x1 - 1) (fun v3 => F_X12_sells_L127 x0 x1 x2 x3 (fun  (M11 : zM) => zbV (F_X12_copies x0 (zgr x0 47) (zgr x0 48) M11) (fun M12 => F_X12_sells_L184 x0 x1 x2 x3 (fun (y2 : Int32) (M15 : zM) => F_X12_sells_L262 x0 x1 x2 x3 (fun (y3 : Int32) (M17 : zM) => zjo (fun  (M23 : zM) => F_X12_sells_L114 x0 x1 x2 K400 n (x3 + 1) M23) (fun (k2 : zM → zO) => zit (y3 = 0) (k2 M17) (zjo (fun  (M19 : zM) => zst (zup M19 x0 71 ((M19 x0 71) + 1)) (fun M20 => F_X12_sells_L357 x0 x1 x2 x3 (fun  (M22 : zM) => k2 M22) zN 0 M20)) (fun (k3 : zM → zO) => zit ((M17 x0 71) = 0) (zbV (F_X12_copies x0 (zgr x0 67) (zgr x0 68) M17) (fun M18 => k3 M18)) (k3 M17))))) zN y2 0 M15) zN 1 0 M12)) zN x3 v3 M))
def F_X12_sells (t : Nat) (a1 : Int32) (M : zM) : zO := zst (zup M t 70 0) (fun M1 => F_X12_sells_L7 t a1 (fun  (M5 : zM) => F_X12_sells_L66 t a1 (fun  (M7 : zM) => zst (zup M7 t 71 0) (fun M8 => F_X12_sells_L94 t a1 (fun (y1 : Int32) (M9 : zM) => F_X12_sells_L114 t a1 y1 (fun  (M24 : zM) => zV M24) zN 0 M9) zN 1 0 M8)) zN 0 M5) zN 0 M1)
set_option maxHeartbeats 1000000 in
set_option maxRecDepth 20000 in
theorem ct_X12_sells_L19 (l : Launch) (hl : l.stackTraces = false) (G : zG) (x0 : Nat) (hx0 : zsh x0 = 12) (x1 : Int32) (x2 : Int32) (K58 : zM → zO) (hK58 : ∀  (M : zM), zEv l G Y_X12_sells 5 0 58 [(0, .ref (G.2.1 + x0)), (1, .int x1), (2, .int x2)] [] M (K58 M)) : ∀ (n : Nat) (x3 : Int32) (M : zM), zEv l G Y_X12_sells 5 0 19 [(0, .ref (G.2.1 + x0)), (1, .int x1), (2, .int x2), (3, .int x3)] [] M (F_X12_sells_L19 x0 x1 x2 K58 n x3 M) := by
  intro n
  induction n with
  | zero => intro x3 M; exact ev_none
  | succ n ih =>
    intro x3 M
    show zEv l G Y_X12_sells 5 0 19 [(0, .ref (G.2.1 + x0)), (1, .int x1), (2, .int x2), (3, .int x3)] [] M (zit ((M x0 1) ≤ x3) (K58 M) (zck (zin (M x0 70) 28) (zst (zup M (zgr x0 66) (zix (M x0 70)) ((10 * x2) + x3)) (fun M2 => zst (zup M2 x0 70 ((M2 x0 70) + 1)) (fun M3 => F_X12_sells_L19 x0 x1 x2 K58 n (x3 + 1) M3)))))
    refine ev_iload_n dd_X12_sells_19 3 rfl ?_
    refine ev_aload_n dd_X12_sells_20 0 rfl ?_
    refine ev_getI gf_RX12_319 dd_X12_sells_21 hx0 (by decide) ?_
    refine ev_icmp_ge 58 dd_X12_sells_24 (by decide) ?_ ?_
    · refine ev_lv (lv' := [(0, .ref (G.2.1 + x0)), (1, .int x1), (2, .int x2)]) [0, 1, 2] rfl ?_
      exact hK58 _
    · refine ev_aload_n dd_X12_sells_27 0 rfl ?_
      refine ev_getR gf_RX12_132 dd_X12_sells_28 hx0 (by decide) ?_
      refine ev_aload_n dd_X12_sells_31 0 rfl ?_
      refine ev_getI gf_RX12_453 dd_X12_sells_32 hx0 (by decide) ?_
      refine ev_bipush (v := 10) dd_X12_sells_35 (by decide) ?_
      refine ev_iload_n dd_X12_sells_37 2 rfl ?_
      refine ev_imul dd_X12_sells_38 ?_
      refine ev_iload_n dd_X12_sells_39 3 rfl ?_
      refine ev_iadd dd_X12_sells_40 ?_
      refine ev_iast dd_X12_sells_41 ((zg_12_66 hx0).1) ((zg_12_66 hx0).2) ?_
      refine ev_st (fun M2 => ?_)
      refine ev_aload_n dd_X12_sells_42 0 rfl ?_
      refine ev_dup dd_X12_sells_43 rfl ?_
      refine ev_getI gf_RX12_453 dd_X12_sells_44 hx0 (by decide) ?_
      refine ev_iconst (v := 1) dd_X12_sells_47 (by decide) ?_
      refine ev_iadd dd_X12_sells_48 ?_
      refine ev_putI gw_RX12_453 dd_X12_sells_49 hx0 (by decide) ?_
      refine ev_st (fun M3 => ?_)
      refine ev_iinc (j := 3) (v := 1) (lv' := [(0, .ref (G.2.1 + x0)), (1, .int x1), (2, .int x2), (3, .int (x3 + 1))]) [1, 2, 3, 0] dd_X12_sells_52 rfl (by decide) (by decide) rfl ?_
      refine ev_goto 19 dd_X12_sells_55 (by decide) ?_
      exact ih _ _
set_option maxHeartbeats 1000000 in
set_option maxRecDepth 20000 in
theorem ct_X12_sells_L7 (l : Launch) (hl : l.stackTraces = false) (G : zG) (x0 : Nat) (hx0 : zsh x0 = 12) (x1 : Int32) (K64 : zM → zO) (hK64 : ∀  (M : zM), zEv l G Y_X12_sells 5 0 64 [(0, .ref (G.2.1 + x0)), (1, .int x1)] [] M (K64 M)) : ∀ (n : Nat) (x2 : Int32) (M : zM), zEv l G Y_X12_sells 5 0 7 [(0, .ref (G.2.1 + x0)), (1, .int x1), (2, .int x2)] [] M (F_X12_sells_L7 x0 x1 K64 n x2 M) := by
  intro n
  induction n with
  | zero => intro x2 M; exact ev_none
  | succ n ih =>
    intro x2 M
    show zEv l G Y_X12_sells 5 0 7 [(0, .ref (G.2.1 + x0)), (1, .int x1), (2, .int x2)] [] M (zit ((M x0 1) ≤ x2) (K64 M) (zlt (x2 + 1) (fun v1 => F_X12_sells_L19 x0 x1 x2 (fun  (M4 : zM) => F_X12_sells_L7 x0 x1 K64 n (x2 + 1) M4) zN v1 M)))
    refine ev_iload_n dd_X12_sells_7 2 rfl ?_
    refine ev_aload_n dd_X12_sells_8 0 rfl ?_
    refine ev_getI gf_RX12_319 dd_X12_sells_9 hx0 (by decide) ?_
    refine ev_icmp_ge 64 dd_X12_sells_12 (by decide) ?_ ?_
    · refine ev_lv (lv' := [(0, .ref (G.2.1 + x0)), (1, .int x1)]) [0, 1] rfl ?_
      exact hK64 _
    · refine ev_iload_n dd_X12_sells_15 2 rfl ?_
      refine ev_iconst (v := 1) dd_X12_sells_16 (by decide) ?_
      refine ev_iadd dd_X12_sells_17 ?_
      refine ev_topi (fun v1 => ?_)
      refine ev_istore_n (i := 3) (lv' := [(0, .ref (G.2.1 + x0)), (1, .int x1), (2, .int x2), (3, .int v1)]) [1, 2, 3, 0] dd_X12_sells_18 rfl (by decide) rfl ?_
      refine ct_X12_sells_L19 l hl G x0 hx0 x1 x2 _ (fun M4 => ?_) zN _ _
      refine ev_iinc (j := 2) (v := 1) (lv' := [(0, .ref (G.2.1 + x0)), (1, .int x1), (2, .int (x2 + 1))]) [1, 2, 0] dd_X12_sells_58 rfl (by decide) (by decide) rfl ?_
      refine ev_goto 7 dd_X12_sells_61 (by decide) ?_
      exact ih _ _
set_option maxHeartbeats 1000000 in
set_option maxRecDepth 20000 in
theorem ct_X12_sells_L66 (l : Launch) (hl : l.stackTraces = false) (G : zG) (x0 : Nat) (hx0 : zsh x0 = 12) (x1 : Int32) (K85 : zM → zO) (hK85 : ∀  (M : zM), zEv l G Y_X12_sells 5 0 85 [(0, .ref (G.2.1 + x0)), (1, .int x1)] [] M (K85 M)) : ∀ (n : Nat) (x2 : Int32) (M : zM), zEv l G Y_X12_sells 5 0 66 [(0, .ref (G.2.1 + x0)), (1, .int x1), (2, .int x2)] [] M (F_X12_sells_L66 x0 x1 K85 n x2 M) := by
  intro n
  induction n with
  | zero => intro x2 M; exact ev_none
  | succ n ih =>
    intro x2 M
    show zEv l G Y_X12_sells 5 0 66 [(0, .ref (G.2.1 + x0)), (1, .int x1), (2, .int x2)] [] M (zit (64 ≤ x2) (K85 M) (zck (zin x2 64) (zst (zup M (zgr x0 69) (zix x2) 0) (fun M6 => F_X12_sells_L66 x0 x1 K85 n (x2 + 1) M6))))
    refine ev_iload_n dd_X12_sells_66 2 rfl ?_
    refine ev_bipush (v := 64) dd_X12_sells_67 (by decide) ?_
    refine ev_icmp_ge 85 dd_X12_sells_69 (by decide) ?_ ?_
    · refine ev_lv (lv' := [(0, .ref (G.2.1 + x0)), (1, .int x1)]) [0, 1] rfl ?_
      exact hK85 _
    · refine ev_aload_n dd_X12_sells_72 0 rfl ?_
      refine ev_getR gf_RX12_141 dd_X12_sells_73 hx0 (by decide) ?_
      refine ev_iload_n dd_X12_sells_76 2 rfl ?_
      refine ev_iconst (v := 0) dd_X12_sells_77 (by decide) ?_
      refine ev_iast dd_X12_sells_78 ((zg_12_69 hx0).1) ((zg_12_69 hx0).2) ?_
      refine ev_st (fun M6 => ?_)
      refine ev_iinc (j := 2) (v := 1) (lv' := [(0, .ref (G.2.1 + x0)), (1, .int x1), (2, .int (x2 + 1))]) [1, 2, 0] dd_X12_sells_79 rfl (by decide) (by decide) rfl ?_
      refine ev_goto 66 dd_X12_sells_82 (by decide) ?_
      exact ih _ _
set_option maxHeartbeats 1000000 in
set_option maxRecDepth 20000 in
theorem ct_X12_sells_L94 (l : Launch) (hl : l.stackTraces = false) (G : zG) (x0 : Nat) (hx0 : zsh x0 = 12) (x1 : Int32) (K112 : Int32 → zM → zO) (hK112 : ∀ (x2 : Int32) (M : zM), zEv l G Y_X12_sells 5 0 112 [(0, .ref (G.2.1 + x0)), (1, .int x1), (2, .int x2)] [] M (K112 x2 M)) : ∀ (n : Nat) (x2 : Int32) (x3 : Int32) (M : zM), zEv l G Y_X12_sells 5 0 94 [(0, .ref (G.2.1 + x0)), (1, .int x1), (2, .int x2), (3, .int x3)] [] M (F_X12_sells_L94 x0 x1 K112 n x2 x3 M) := by
  intro n
  induction n with
  | zero => intro x2 x3 M; exact ev_none
  | succ n ih =>
    intro x2 x3 M
    show zEv l G Y_X12_sells 5 0 94 [(0, .ref (G.2.1 + x0)), (1, .int x1), (2, .int x2), (3, .int x3)] [] M (zit (x1 ≤ x3) (K112 x2 M) (zlt (x2 * (M x0 70)) (fun v2 => F_X12_sells_L94 x0 x1 K112 n v2 (x3 + 1) M)))
    refine ev_iload_n dd_X12_sells_94 3 rfl ?_
    refine ev_iload_n dd_X12_sells_95 1 rfl ?_
    refine ev_icmp_ge 112 dd_X12_sells_96 (by decide) ?_ ?_
    · refine ev_lv (lv' := [(0, .ref (G.2.1 + x0)), (1, .int x1), (2, .int x2)]) [0, 1, 2] rfl ?_
      exact hK112 _ _
    · refine ev_iload_n dd_X12_sells_99 2 rfl ?_
      refine ev_lv (lv' := [(0, .ref (G.2.1 + x0)), (1, .int x1), (3, .int x3)]) [0, 1, 3] rfl ?_
      refine ev_aload_n dd_X12_sells_100 0 rfl ?_
      refine ev_getI gf_RX12_453 dd_X12_sells_101 hx0 (by decide) ?_
      refine ev_imul dd_X12_sells_104 ?_
      refine ev_topi (fun v2 => ?_)
      refine ev_istore_n (i := 2) (lv' := [(0, .ref (G.2.1 + x0)), (1, .int x1), (2, .int v2), (3, .int x3)]) [1, 2, 0, 3] dd_X12_sells_105 rfl (by decide) rfl ?_
      refine ev_iinc (j := 3) (v := 1) (lv' := [(0, .ref (G.2.1 + x0)), (1, .int x1), (2, .int v2), (3, .int (x3 + 1))]) [1, 2, 3, 0] dd_X12_sells_106 rfl (by decide) (by decide) rfl ?_
      refine ev_goto 94 dd_X12_sells_109 (by decide) ?_
      exact ih _ _ _
set_option maxHeartbeats 1000000 in
set_option maxRecDepth 20000 in
theorem ct_X12_sells_L127 (l : Launch) (hl : l.stackTraces = false) (G : zG) (x0 : Nat) (hx0 : zsh x0 = 12) (x1 : Int32) (x2 : Int32) (x3 : Int32) (K166 : zM → zO) (hK166 : ∀  (M : zM), zEv l G Y_X12_sells 5 0 166 [(0, .ref (G.2.1 + x0)), (1, .int x1), (2, .int x2), (3, .int x3)] [] M (K166 M)) : ∀ (n : Nat) (x4 : Int32) (x5 : Int32) (M : zM), zEv l G Y_X12_sells 5 0 127 [(0, .ref (G.2.1 + x0)), (1, .int x1), (2, .int x2), (3, .int x3), (4, .int x4), (5, .int x5)] [] M (F_X12_sells_L127 x0 x1 x2 x3 K166 n x4 x5 M) := by
  intro n
  induction n with
  | zero => intro x4 x5 M; exact ev_none
  | succ n ih =>
    intro x4 x5 M
    show zEv l G Y_X12_sells 5 0 127 [(0, .ref (G.2.1 + x0)), (1, .int x1), (2, .int x2), (3, .int x3), (4, .int x4), (5, .int x5)] [] M (zit (x5 < 0) (K166 M) (zck (!decide ((M x0 70) = 0)) (zck (zin (x4 - x4 / (M x0 70) * (M x0 70)) 28) (zck (zin x5 3) (zst (zup M (zgr x0 67) (zix x5) (M (zgr x0 66) (zix (x4 - x4 / (M x0 70) * (M x0 70))))) (fun M10 => zck (!decide ((M10 x0 70) = 0)) (zlt (x4 / (M10 x0 70)) (fun v4 => F_X12_sells_L127 x0 x1 x2 x3 K166 n v4 (x5 + (-1)) M10))))))))
    refine ev_iload dd_X12_sells_127 5 rfl ?_
    refine ev_if_lt 166 dd_X12_sells_129 (by decide) ?_ ?_
    · refine ev_lv (lv' := [(0, .ref (G.2.1 + x0)), (1, .int x1), (2, .int x2), (3, .int x3)]) [0, 1, 2, 3] rfl ?_
      exact hK166 _
    · refine ev_aload_n dd_X12_sells_132 0 rfl ?_
      refine ev_getR gf_RX12_135 dd_X12_sells_133 hx0 (by decide) ?_
      refine ev_iload dd_X12_sells_136 5 rfl ?_
      refine ev_aload_n dd_X12_sells_138 0 rfl ?_
      refine ev_getR gf_RX12_132 dd_X12_sells_139 hx0 (by decide) ?_
      refine ev_iload dd_X12_sells_142 4 rfl ?_
      refine ev_aload_n dd_X12_sells_144 0 rfl ?_
      refine ev_getI gf_RX12_453 dd_X12_sells_145 hx0 (by decide) ?_
      refine ev_irem dd_X12_sells_148 ?_
      refine ev_iald dd_X12_sells_149 ((zg_12_66 hx0).1) ((zg_12_66 hx0).2) ?_
      refine ev_iast dd_X12_sells_150 ((zg_12_67 hx0).1) ((zg_12_67 hx0).2) ?_
      refine ev_st (fun M10 => ?_)
      refine ev_iload dd_X12_sells_151 4 rfl ?_
      refine ev_lv (lv' := [(0, .ref (G.2.1 + x0)), (1, .int x1), (2, .int x2), (3, .int x3), (5, .int x5)]) [0, 1, 2, 3, 5] rfl ?_
      refine ev_aload_n dd_X12_sells_153 0 rfl ?_
      refine ev_getI gf_RX12_453 dd_X12_sells_154 hx0 (by decide) ?_
      refine ev_idiv dd_X12_sells_157 ?_
      refine ev_topi (fun v4 => ?_)
      refine ev_istore (i := 4) (lv' := [(0, .ref (G.2.1 + x0)), (1, .int x1), (2, .int x2), (3, .int x3), (4, .int v4), (5, .int x5)]) [1, 2, 3, 4, 0, 5] dd_X12_sells_158 (by decide) rfl ?_
      refine ev_iinc (j := 5) (v := (-1)) (lv' := [(0, .ref (G.2.1 + x0)), (1, .int x1), (2, .int x2), (3, .int x3), (4, .int v4), (5, .int (x5 + (-1)))]) [1, 2, 3, 4, 5, 0] dd_X12_sells_160 rfl (by decide) (by decide) rfl ?_
      refine ev_goto 127 dd_X12_sells_163 (by decide) ?_
      exact ih _ _ _
set_option maxHeartbeats 1000000 in
set_option maxRecDepth 20000 in
theorem ct_X12_sells_L184 (l : Launch) (hl : l.stackTraces = false) (G : zG) (x0 : Nat) (hx0 : zsh x0 = 12) (x1 : Int32) (x2 : Int32) (x3 : Int32) (K259 : Int32 → zM → zO) (hK259 : ∀ (x5 : Int32) (M : zM), zEv l G Y_X12_sells 5 0 259 [(0, .ref (G.2.1 + x0)), (1, .int x1), (2, .int x2), (3, .int x3), (5, .int x5)] [] M (K259 x5 M)) : ∀ (n : Nat) (x5 : Int32) (x6 : Int32) (M : zM), zEv l G Y_X12_sells 5 0 184 [(0, .ref (G.2.1 + x0)), (1, .int x1), (2, .int x2), (3, .int x3), (5, .int x5), (6, .int x6)] [] M (F_X12_sells_L184 x0 x1 x2 x3 K259 n x5 x6 M) := by
  intro n
  induction n with
  | zero => intro x5 x6 M; exact ev_none
  | succ n ih =>
    intro x5 x6 M
    show zEv l G Y_X12_sells 5 0 184 [(0, .ref (G.2.1 + x0)), (1, .int x1), (2, .int x2), (3, .int x3), (5, .int x5), (6, .int x6)] [] M (zit (x1 ≤ x6) (K259 x5 M) (zit (x5 = 0) (K259 x5 M) (zck (zin x6 3) (zck (!decide (10 = 0)) (zck (zin x6 3) (zck (!decide (10 = 0)) (zbI (F_X12_maySwap x0 (zgr x0 48) ((M (zgr x0 67) (zix x6)) / 10) ((M (zgr x0 67) (zix x6)) - (M (zgr x0 67) (zix x6)) / 10 * 10) M) (fun r1 M13 => zck (zin x6 3) (zck (!decide (10 = 0)) (zck (zin x6 3) (zck (!decide (10 = 0)) (zbV (F_X12_changes x0 (zgr x0 48) ((M13 (zgr x0 67) (zix x6)) / 10) ((M13 (zgr x0 67) (zix x6)) - (M13 (zgr x0 67) (zix x6)) / 10 * 10) M13) (fun M14 => F_X12_sells_L184 x0 x1 x2 x3 K259 n r1 (x6 + 1) M14)))))))))))))
    refine ev_iload dd_X12_sells_184 5 rfl ?_
    refine ev_iload_n dd_X12_sells_186 1 rfl ?_
    refine ev_icmp_ge 259 dd_X12_sells_187 (by decide) ?_ ?_
    · refine ev_lv (lv' := [(0, .ref (G.2.1 + x0)), (1, .int x1), (2, .int x2), (3, .int x3), (5, .int x5)]) [0, 1, 2, 3, 4] rfl ?_
      exact hK259 _ _
    · refine ev_iload dd_X12_sells_190 4 rfl ?_
      refine ev_if_eq 259 dd_X12_sells_192 (by decide) ?_ ?_
      · refine ev_lv (lv' := [(0, .ref (G.2.1 + x0)), (1, .int x1), (2, .int x2), (3, .int x3), (5, .int x5)]) [0, 1, 2, 3, 4] rfl ?_
        exact hK259 _ _
      · refine ev_lv (lv' := [(0, .ref (G.2.1 + x0)), (1, .int x1), (2, .int x2), (3, .int x3), (6, .int x6)]) [0, 1, 2, 3, 5] rfl ?_
        refine ev_aload_n dd_X12_sells_195 0 rfl ?_
        refine ev_aload_n dd_X12_sells_196 0 rfl ?_
        refine ev_getR gf_RX12_90 dd_X12_sells_197 hx0 (by decide) ?_
        refine ev_aload_n dd_X12_sells_200 0 rfl ?_
        refine ev_getR gf_RX12_135 dd_X12_sells_201 hx0 (by decide) ?_
        refine ev_iload dd_X12_sells_204 4 rfl ?_
        refine ev_iald dd_X12_sells_206 ((zg_12_67 hx0).1) ((zg_12_67 hx0).2) ?_
        refine ev_bipush (v := 10) dd_X12_sells_207 (by decide) ?_
        refine ev_idiv dd_X12_sells_209 ?_
        refine ev_aload_n dd_X12_sells_210 0 rfl ?_
        refine ev_getR gf_RX12_135 dd_X12_sells_211 hx0 (by decide) ?_
        refine ev_iload dd_X12_sells_214 4 rfl ?_
        refine ev_iald dd_X12_sells_216 ((zg_12_67 hx0).1) ((zg_12_67 hx0).2) ?_
        refine ev_bipush (v := 10) dd_X12_sells_217 (by decide) ?_
        refine ev_irem dd_X12_sells_219 ?_
        refine ev_callVI (As := [.ref (G.2.1 + (zgr x0 48)), .int ((M (zgr x0 67) (zix x6)) / 10), .int ((M (zgr x0 67) (zix x6)) - (M (zgr x0 67) (zix x6)) / 10 * 10)]) cl_RX12_381 (ct_X12_maySwap l hl G x0 hx0 (zgr x0 48) ((zg_12_48 hx0).1) ((M (zgr x0 67) (zix x6)) / 10) ((M (zgr x0 67) (zix x6)) - (M (zgr x0 67) (zix x6)) / 10 * 10) M) dd_X12_sells_220 hx0 (by decide) (Nat.le_of_ble_eq_true rfl) (Nat.le_of_ble_eq_true rfl) rfl rfl (fun r1 M13 => ?_)
        refine ev_istore (i := 5) (lv' := [(0, .ref (G.2.1 + x0)), (1, .int x1), (2, .int x2), (3, .int x3), (5, .int r1), (6, .int x6)]) [1, 2, 3, 4, 0, 5] dd_X12_sells_223 (by decide) rfl ?_
        refine ev_aload_n dd_X12_sells_225 0 rfl ?_
        refine ev_aload_n dd_X12_sells_226 0 rfl ?_
        refine ev_getR gf_RX12_90 dd_X12_sells_227 hx0 (by decide) ?_
        refine ev_aload_n dd_X12_sells_230 0 rfl ?_
        refine ev_getR gf_RX12_135 dd_X12_sells_231 hx0 (by decide) ?_
        refine ev_iload dd_X12_sells_234 5 rfl ?_
        refine ev_iald dd_X12_sells_236 ((zg_12_67 hx0).1) ((zg_12_67 hx0).2) ?_
        refine ev_bipush (v := 10) dd_X12_sells_237 (by decide) ?_
        refine ev_idiv dd_X12_sells_239 ?_
        refine ev_aload_n dd_X12_sells_240 0 rfl ?_
        refine ev_getR gf_RX12_135 dd_X12_sells_241 hx0 (by decide) ?_
        refine ev_iload dd_X12_sells_244 5 rfl ?_
        refine ev_iald dd_X12_sells_246 ((zg_12_67 hx0).1) ((zg_12_67 hx0).2) ?_
        refine ev_bipush (v := 10) dd_X12_sells_247 (by decide) ?_
        refine ev_irem dd_X12_sells_249 ?_
        refine ev_callVV (As := [.ref (G.2.1 + (zgr x0 48)), .int ((M13 (zgr x0 67) (zix x6)) / 10), .int ((M13 (zgr x0 67) (zix x6)) - (M13 (zgr x0 67) (zix x6)) / 10 * 10)]) cl_RX12_377 (ct_X12_changes l hl G x0 hx0 (zgr x0 48) ((zg_12_48 hx0).1) ((M13 (zgr x0 67) (zix x6)) / 10) ((M13 (zgr x0 67) (zix x6)) - (M13 (zgr x0 67) (zix x6)) / 10 * 10) M13) dd_X12_sells_250 hx0 (by decide) (Nat.le_of_ble_eq_true rfl) (Nat.le_of_ble_eq_true rfl) rfl rfl (fun M14 => ?_)
        refine ev_iinc (j := 5) (v := 1) (lv' := [(0, .ref (G.2.1 + x0)), (1, .int x1), (2, .int x2), (3, .int x3), (5, .int r1), (6, .int (x6 + 1))]) [1, 2, 3, 4, 5, 0] dd_X12_sells_253 rfl (by decide) (by decide) rfl ?_
        refine ev_goto 184 dd_X12_sells_256 (by decide) ?_
        exact ih _ _ _
set_option maxHeartbeats 1000000 in
set_option maxRecDepth 20000 in
theorem ct_X12_sells_L262 (l : Launch) (hl : l.stackTraces = false) (G : zG) (x0 : Nat) (hx0 : zsh x0 = 12) (x1 : Int32) (x2 : Int32) (x3 : Int32) (K317 : Int32 → zM → zO) (hK317 : ∀ (x5 : Int32) (M : zM), zEv l G Y_X12_sells 5 0 317 [(0, .ref (G.2.1 + x0)), (1, .int x1), (2, .int x2), (3, .int x3), (5, .int x5)] [] M (K317 x5 M)) : ∀ (n : Nat) (x5 : Int32) (x6 : Int32) (M : zM), zEv l G Y_X12_sells 5 0 262 [(0, .ref (G.2.1 + x0)), (1, .int x1), (2, .int x2), (3, .int x3), (5, .int x5), (6, .int x6)] [] M (F_X12_sells_L262 x0 x1 x2 x3 K317 n x5 x6 M) := by
  intro n
  induction n with
  | zero => intro x5 x6 M; exact ev_none
  | succ n ih =>
    intro x5 x6 M
    show zEv l G Y_X12_sells 5 0 262 [(0, .ref (G.2.1 + x0)), (1, .int x1), (2, .int x2), (3, .int x3), (5, .int x5), (6, .int x6)] [] M (zit ((M x0 64) ≤ x6) (K317 x5 M) (zit (x5 = 0) (K317 x5 M) (zck (zin (2 * x6) 16) (zck (zin (M (zgr x0 65) (zix (2 * x6))) 73) (zck (zin ((2 * x6) + 1) 16) (zjo (fun (w1 : Int32) (M16 : zM) => F_X12_sells_L262 x0 x1 x2 x3 K317 n w1 (x6 + 1) M16) (fun (k1 : Int32 → zM → zO) => zit ((M (zgr x0 48) (zix (M (zgr x0 65) (zix (2 * x6))))) = (M (zgr x0 65) (zix ((2 * x6) + 1)))) (k1 1 M) (k1 0 M))))))))
    refine ev_iload dd_X12_sells_262 5 rfl ?_
    refine ev_aload_n dd_X12_sells_264 0 rfl ?_
    refine ev_getI gf_RX12_332 dd_X12_sells_265 hx0 (by decide) ?_
    refine ev_icmp_ge 317 dd_X12_sells_268 (by decide) ?_ ?_
    · refine ev_lv (lv' := [(0, .ref (G.2.1 + x0)), (1, .int x1), (2, .int x2), (3, .int x3), (5, .int x5)]) [0, 1, 2, 3, 4] rfl ?_
      exact hK317 _ _
    · refine ev_iload dd_X12_sells_271 4 rfl ?_
      refine ev_if_eq 317 dd_X12_sells_273 (by decide) ?_ ?_
      · refine ev_lv (lv' := [(0, .ref (G.2.1 + x0)), (1, .int x1), (2, .int x2), (3, .int x3), (5, .int x5)]) [0, 1, 2, 3, 4] rfl ?_
        exact hK317 _ _
      · refine ev_lv (lv' := [(0, .ref (G.2.1 + x0)), (1, .int x1), (2, .int x2), (3, .int x3), (6, .int x6)]) [0, 1, 2, 3, 5] rfl ?_
        refine ev_aload_n dd_X12_sells_276 0 rfl ?_
        refine ev_getR gf_RX12_90 dd_X12_sells_277 hx0 (by decide) ?_
        refine ev_aload_n dd_X12_sells_280 0 rfl ?_
        refine ev_getR gf_RX12_129 dd_X12_sells_281 hx0 (by decide) ?_
        refine ev_iconst (v := 2) dd_X12_sells_284 (by decide) ?_
        refine ev_iload dd_X12_sells_285 4 rfl ?_
        refine ev_imul dd_X12_sells_287 ?_
        refine ev_iald dd_X12_sells_288 ((zg_12_65 hx0).1) ((zg_12_65 hx0).2) ?_
        refine ev_iald dd_X12_sells_289 ((zg_12_48 hx0).1) ((zg_12_48 hx0).2) ?_
        refine ev_aload_n dd_X12_sells_290 0 rfl ?_
        refine ev_getR gf_RX12_129 dd_X12_sells_291 hx0 (by decide) ?_
        refine ev_iconst (v := 2) dd_X12_sells_294 (by decide) ?_
        refine ev_iload dd_X12_sells_295 4 rfl ?_
        refine ev_imul dd_X12_sells_297 ?_
        refine ev_iconst (v := 1) dd_X12_sells_298 (by decide) ?_
        refine ev_iadd dd_X12_sells_299 ?_
        refine ev_iald dd_X12_sells_300 ((zg_12_65 hx0).1) ((zg_12_65 hx0).2) ?_
        refine ev_jo (fun (k1 : Int32 → zM → zO) => ∀ (w1 : Int32) (M16 : zM), zEv l G Y_X12_sells 5 0 309 [(0, .ref (G.2.1 + x0)), (1, .int x1), (2, .int x2), (3, .int x3), (6, .int x6)] [.int w1] M16 (k1 w1 M16)) ?_ (fun k1 hk1 => ?_)
        · intro w1 M16
          refine ev_istore (i := 5) (lv' := [(0, .ref (G.2.1 + x0)), (1, .int x1), (2, .int x2), (3, .int x3), (5, .int w1), (6, .int x6)]) [1, 2, 3, 4, 0, 5] dd_X12_sells_309 (by decide) rfl ?_
          refine ev_iinc (j := 5) (v := 1) (lv' := [(0, .ref (G.2.1 + x0)), (1, .int x1), (2, .int x2), (3, .int x3), (5, .int w1), (6, .int (x6 + 1))]) [1, 2, 3, 4, 5, 0] dd_X12_sells_311 rfl (by decide) (by decide) rfl ?_
          refine ev_goto 262 dd_X12_sells_314 (by decide) ?_
          exact ih _ _ _
        · refine ev_icmp_ne 308 dd_X12_sells_301 (by decide) ?_ ?_
          · refine ev_iconst (v := 0) dd_X12_sells_308 (by decide) ?_
            exact hk1 _ _
          · refine ev_iconst (v := 1) dd_X12_sells_304 (by decide) ?_
            refine ev_goto 309 dd_X12_sells_305 (by decide) ?_
            exact hk1 _ _
set_option maxHeartbeats 1000000 in
set_option maxRecDepth 20000 in
theorem ct_X12_sells_L357 (l : Launch) (hl : l.stackTraces = false) (G : zG) (x0 : Nat) (hx0 : zsh x0 = 12) (x1 : Int32) (x2 : Int32) (x3 : Int32) (K394 : zM → zO) (hK394 : ∀  (M : zM), zEv l G Y_X12_sells 5 0 394 [(0, .ref (G.2.1 + x0)), (1, .int x1), (2, .int x2), (3, .int x3)] [] M (K394 M)) : ∀ (n : Nat) (x6 : Int32) (M : zM), zEv l G Y_X12_sells 5 0 357 [(0, .ref (G.2.1 + x0)), (1, .int x1), (2, .int x2), (3, .int x3), (6, .int x6)] [] M (F_X12_sells_L357 x0 x1 x2 x3 K394 n x6 M) := by
  intro n
  induction n with
  | zero => intro x6 M; exact ev_none
  | succ n ih =>
    intro x6 M
    show zEv l G Y_X12_sells 5 0 357 [(0, .ref (G.2.1 + x0)), (1, .int x1), (2, .int x2), (3, .int x3), (6, .int x6)] [] M (zit ((M x0 1) ≤ x6) (K394 M) (zck (zin x6 73) (zck (zin ((8 * x6) + (M (zgr x0 48) (zix x6))) 64) (zck (zin ((8 * x6) + (M (zgr x0 48) (zix x6))) 64) (zst (zup M (zgr x0 69) (zix ((8 * x6) + (M (zgr x0 48) (zix x6)))) ((M (zgr x0 69) (zix ((8 * x6) + (M (zgr x0 48) (zix x6))))) + 1)) (fun M21 => F_X12_sells_L357 x0 x1 x2 x3 K394 n (x6 + 1) M21))))))
    refine ev_iload dd_X12_sells_357 4 rfl ?_
    refine ev_aload_n dd_X12_sells_359 0 rfl ?_
    refine ev_getI gf_RX12_319 dd_X12_sells_360 hx0 (by decide) ?_
    refine ev_icmp_ge 394 dd_X12_sells_363 (by decide) ?_ ?_
    · refine ev_lv (lv' := [(0, .ref (G.2.1 + x0)), (1, .int x1), (2, .int x2), (3, .int x3)]) [0, 1, 2, 3] rfl ?_
      exact hK394 _
    · refine ev_aload_n dd_X12_sells_366 0 rfl ?_
      refine ev_getR gf_RX12_141 dd_X12_sells_367 hx0 (by decide) ?_
      refine ev_bipush (v := 8) dd_X12_sells_370 (by decide) ?_
      refine ev_iload dd_X12_sells_372 4 rfl ?_
      refine ev_imul dd_X12_sells_374 ?_
      refine ev_aload_n dd_X12_sells_375 0 rfl ?_
      refine ev_getR gf_RX12_90 dd_X12_sells_376 hx0 (by decide) ?_
      refine ev_iload dd_X12_sells_379 4 rfl ?_
      refine ev_iald dd_X12_sells_381 ((zg_12_48 hx0).1) ((zg_12_48 hx0).2) ?_
      refine ev_iadd dd_X12_sells_382 ?_
      refine ev_dup2 dd_X12_sells_383 rfl rfl ?_
      refine ev_iald dd_X12_sells_384 ((zg_12_69 hx0).1) ((zg_12_69 hx0).2) ?_
      refine ev_iconst (v := 1) dd_X12_sells_385 (by decide) ?_
      refine ev_iadd dd_X12_sells_386 ?_
      refine ev_iast dd_X12_sells_387 ((zg_12_69 hx0).1) ((zg_12_69 hx0).2) ?_
      refine ev_st (fun M21 => ?_)
      refine ev_iinc (j := 4) (v := 1) (lv' := [(0, .ref (G.2.1 + x0)), (1, .int x1), (2, .int x2), (3, .int x3), (6, .int (x6 + 1))]) [1, 2, 3, 4, 0] dd_X12_sells_388 rfl (by decide) (by decide) rfl ?_
      refine ev_goto 357 dd_X12_sells_391 (by decide) ?_
      exact ih _ _
set_option maxHeartbeats 1000000 in
set_option maxRecDepth 20000 in
theorem ct_X12_sells_L114 (l : Launch) (hl : l.stackTraces = false) (G : zG) (x0 : Nat) (hx0 : zsh x0 = 12) (x1 : Int32) (x2 : Int32) (K400 : zM → zO) (hK400 : ∀  (M : zM), zEv l G Y_X12_sells 5 0 400 [] [] M (K400 M)) : ∀ (n : Nat) (x3 : Int32) (M : zM), zEv l G Y_X12_sells 5 0 114 [(0, .ref (G.2.1 + x0)), (1, .int x1), (2, .int x2), (3, .int x3)] [] M (F_X12_sells_L114 x0 x1 x2 K400 n x3 M) := by
  intro n
  induction n with
  | zero => intro x3 M; exact ev_none
  | succ n ih =>
    intro x3 M
    show zEv l G Y_X12_sells 5 0 114 [(0, .ref (G.2.1 + x0)), (1, .int x1), (2, .int x2), (3, .int x3)] [] M (zit (x2 ≤ x3) (K400 M) (zlt (x1 - 1) (fun v3 => F_X12_sells_L127 x0 x1 x2 x3 (fun  (M11 : zM) => zbV (F_X12_copies x0 (zgr x0 47) (zgr x0 48) M11) (fun M12 => F_X12_sells_L184 x0 x1 x2 x3 (fun (y2 : Int32) (M15 : zM) => F_X12_sells_L262 x0 x1 x2 x3 (fun (y3 : Int32) (M17 : zM) => zjo (fun  (M23 : zM) => F_X12_sells_L114 x0 x1 x2 K400 n (x3 + 1) M23) (fun (k2 : zM → zO) => zit (y3 = 0) (k2 M17) (zjo (fun  (M19 : zM) => zst (zup M19 x0 71 ((M19 x0 71) + 1)) (fun M20 => F_X12_sells_L357 x0 x1 x2 x3 (fun  (M22 : zM) => k2 M22) zN 0 M20)) (fun (k3 : zM → zO) => zit ((M17 x0 71) = 0) (zbV (F_X12_copies x0 (zgr x0 67) (zgr x0 68) M17) (fun M18 => k3 M18)) (k3 M17))))) zN y2 0 M15) zN 1 0 M12)) zN x3 v3 M)))
    refine ev_iload_n dd_X12_sells_114 3 rfl ?_
    refine ev_iload_n dd_X12_sells_115 2 rfl ?_
    refine ev_icmp_ge 400 dd_X12_sells_116 (by decide) ?_ ?_
    · refine ev_lv (lv' := []) [] rfl ?_
      exact hK400 _
    · refine ev_iload_n dd_X12_sells_119 3 rfl ?_
      refine ev_istore (i := 4) (lv' := [(0, .ref (G.2.1 + x0)), (1, .int x1), (2, .int x2), (3, .int x3), (4, .int x3)]) [1, 2, 3, 4, 0] dd_X12_sells_120 (by decide) rfl ?_
      refine ev_iload_n dd_X12_sells_122 1 rfl ?_
      refine ev_iconst (v := 1) dd_X12_sells_123 (by decide) ?_
      refine ev_isub dd_X12_sells_124 ?_
      refine ev_topi (fun v3 => ?_)
      refine ev_istore (i := 5) (lv' := [(0, .ref (G.2.1 + x0)), (1, .int x1), (2, .int x2), (3, .int x3), (4, .int x3), (5, .int v3)]) [1, 2, 3, 4, 5, 0] dd_X12_sells_125 (by decide) rfl ?_
      refine ct_X12_sells_L127 l hl G x0 hx0 x1 x2 x3 _ (fun M11 => ?_) zN _ _ _
      refine ev_aload_n dd_X12_sells_166 0 rfl ?_
      refine ev_aload_n dd_X12_sells_167 0 rfl ?_
      refine ev_getR gf_RX12_87 dd_X12_sells_168 hx0 (by decide) ?_
      refine ev_aload_n dd_X12_sells_171 0 rfl ?_
      refine ev_getR gf_RX12_90 dd_X12_sells_172 hx0 (by decide) ?_
      refine ev_callVV (As := [.ref (G.2.1 + (zgr x0 47)), .ref (G.2.1 + (zgr x0 48))]) cl_RX12_325 (ct_X12_copies l hl G x0 hx0 (zgr x0 47) ((zg_12_47 hx0).1) (zgr x0 48) ((zg_12_48 hx0).1) M11) dd_X12_sells_175 hx0 (by decide) (Nat.le_of_ble_eq_true rfl) (Nat.le_of_ble_eq_true rfl) rfl rfl (fun M12 => ?_)
      refine ev_iconst (v := 1) dd_X12_sells_178 (by decide) ?_
      refine ev_istore (i := 5) (lv' := [(0, .ref (G.2.1 + x0)), (1, .int x1), (2, .int x2), (3, .int x3), (5, .int 1)]) [1, 2, 3, 4, 0] dd_X12_sells_179 (by decide) rfl ?_
      refine ev_iconst (v := 0) dd_X12_sells_181 (by decide) ?_
      refine ev_istore (i := 6) (lv' := [(0, .ref (G.2.1 + x0)), (1, .int x1), (2, .int x2), (3, .int x3), (5, .int 1), (6, .int 0)]) [1, 2, 3, 4, 5, 0] dd_X12_sells_182 (by decide) rfl ?_
      refine ct_X12_sells_L184 l hl G x0 hx0 x1 x2 x3 _ (fun y2 M15 => ?_) zN _ _ _
      refine ev_iconst (v := 0) dd_X12_sells_259 (by decide) ?_
      refine ev_istore (i := 6) (lv' := [(0, .ref (G.2.1 + x0)), (1, .int x1), (2, .int x2), (3, .int x3), (5, .int y2), (6, .int 0)]) [1, 2, 3, 4, 5, 0] dd_X12_sells_260 (by decide) rfl ?_
      refine ct_X12_sells_L262 l hl G x0 hx0 x1 x2 x3 _ (fun y3 M17 => ?_) zN _ _ _
      refine ev_iload dd_X12_sells_317 4 rfl ?_
      refine ev_lv (lv' := [(0, .ref (G.2.1 + x0)), (1, .int x1), (2, .int x2), (3, .int x3)]) [0, 1, 2, 3] rfl ?_
      refine ev_jo (fun (k2 : zM → zO) => ∀  (M23 : zM), zEv l G Y_X12_sells 5 0 394 [(0, .ref (G.2.1 + x0)), (1, .int x1), (2, .int x2), (3, .int x3)] [] M23 (k2 M23)) ?_ (fun k2 hk2 => ?_)
      · intro M23
        refine ev_iinc (j := 3) (v := 1) (lv' := [(0, .ref (G.2.1 + x0)), (1, .int x1), (2, .int x2), (3, .int (x3 + 1))]) [1, 2, 3, 0] dd_X12_sells_394 rfl (by decide) (by decide) rfl ?_
        refine ev_goto 114 dd_X12_sells_397 (by decide) ?_
        exact ih _ _
      · refine ev_if_ne 325 dd_X12_sells_319 (by decide) ?_ ?_
        · refine ev_aload_n dd_X12_sells_325 0 rfl ?_
          refine ev_getI gf_RX12_456 dd_X12_sells_326 hx0 (by decide) ?_
          refine ev_jo (fun (k3 : zM → zO) => ∀  (M19 : zM), zEv l G Y_X12_sells 5 0 344 [(0, .ref (G.2.1 + x0)), (1, .int x1), (2, .int x2), (3, .int x3)] [] M19 (k3 M19)) ?_ (fun k3 hk3 => ?_)
          · intro M19
            refine ev_aload_n dd_X12_sells_344 0 rfl ?_
            refine ev_dup dd_X12_sells_345 rfl ?_
            refine ev_getI gf_RX12_456 dd_X12_sells_346 hx0 (by decide) ?_
            refine ev_iconst (v := 1) dd_X12_sells_349 (by decide) ?_
            refine ev_iadd dd_X12_sells_350 ?_
            refine ev_putI gw_RX12_456 dd_X12_sells_351 hx0 (by decide) ?_
            refine ev_st (fun M20 => ?_)
            refine ev_iconst (v := 0) dd_X12_sells_354 (by decide) ?_
            refine ev_istore (i := 6) (lv' := [(0, .ref (G.2.1 + x0)), (1, .int x1), (2, .int x2), (3, .int x3), (6, .int 0)]) [1, 2, 3, 4, 0] dd_X12_sells_355 (by decide) rfl ?_
            refine ct_X12_sells_L357 l hl G x0 hx0 x1 x2 x3 _ (fun M22 => ?_) zN _ _
            exact hk2 _
          · refine ev_if_ne 344 dd_X12_sells_329 (by decide) ?_ ?_
            · exact hk3 _
            · refine ev_aload_n dd_X12_sells_332 0 rfl ?_
              refine ev_aload_n dd_X12_sells_333 0 rfl ?_
              refine ev_getR gf_RX12_135 dd_X12_sells_334 hx0 (by decide) ?_
              refine ev_aload_n dd_X12_sells_337 0 rfl ?_
              refine ev_getR gf_RX12_138 dd_X12_sells_338 hx0 (by decide) ?_
              refine ev_callVV (As := [.ref (G.2.1 + (zgr x0 67)), .ref (G.2.1 + (zgr x0 68))]) cl_RX12_325 (ct_X12_copies l hl G x0 hx0 (zgr x0 67) ((zg_12_67 hx0).1) (zgr x0 68) ((zg_12_68 hx0).1) M17) dd_X12_sells_341 hx0 (by decide) (Nat.le_of_ble_eq_true rfl) (Nat.le_of_ble_eq_true rfl) rfl rfl (fun M18 => ?_)
              exact hk3 _
        · refine ev_goto 394 dd_X12_sells_322 (by decide) ?_
          exact hk2 _
set_option maxHeartbeats 1000000 in
set_option maxRecDepth 20000 in
theorem ct_X12_sells (l : Launch) (hl : l.stackTraces = false) (G : zG) (t : Nat) (ht : zsh t = 12) (a1 : Int32) (M : zM) : zMt l G Y_X12_sells 5 [.ref (G.2.1 + t), .int a1] M (F_X12_sells t a1 M) := by
  refine zMt_of (by decide +kernel) (Nat.le_of_ble_eq_true rfl) ?_
  show zEv l G Y_X12_sells 5 0 0 [(0, .ref (G.2.1 + t)), (1, .int a1)] [] M (zst (zup M t 70 0) (fun M1 => F_X12_sells_L7 t a1 (fun  (M5 : zM) => F_X12_sells_L66 t a1 (fun  (M7 : zM) => zst (zup M7 t 71 0) (fun M8 => F_X12_sells_L94 t a1 (fun (y1 : Int32) (M9 : zM) => F_X12_sells_L114 t a1 y1 (fun  (M24 : zM) => zV M24) zN 0 M9) zN 1 0 M8)) zN 0 M5) zN 0 M1))
  refine ev_aload_n dd_X12_sells_0 0 rfl ?_
  refine ev_iconst (v := 0) dd_X12_sells_1 (by decide) ?_
  refine ev_putI gw_RX12_453 dd_X12_sells_2 ht (by decide) ?_
  refine ev_st (fun M1 => ?_)
  refine ev_iconst (v := 0) dd_X12_sells_5 (by decide) ?_
  refine ev_istore_n (i := 2) (lv' := [(0, .ref (G.2.1 + t)), (1, .int a1), (2, .int 0)]) [1, 2, 0] dd_X12_sells_6 rfl (by decide) rfl ?_
  refine ct_X12_sells_L7 l hl G t ht a1 _ (fun M5 => ?_) zN _ _
  refine ev_iconst (v := 0) dd_X12_sells_64 (by decide) ?_
  refine ev_istore_n (i := 2) (lv' := [(0, .ref (G.2.1 + t)), (1, .int a1), (2, .int 0)]) [1, 2, 0] dd_X12_sells_65 rfl (by decide) rfl ?_
  refine ct_X12_sells_L66 l hl G t ht a1 _ (fun M7 => ?_) zN _ _
  refine ev_aload_n dd_X12_sells_85 0 rfl ?_
  refine ev_iconst (v := 0) dd_X12_sells_86 (by decide) ?_
  refine ev_putI gw_RX12_456 dd_X12_sells_87 ht (by decide) ?_
  refine ev_st (fun M8 => ?_)
  refine ev_iconst (v := 1) dd_X12_sells_90 (by decide) ?_
  refine ev_istore_n (i := 2) (lv' := [(0, .ref (G.2.1 + t)), (1, .int a1), (2, .int 1)]) [1, 2, 0] dd_X12_sells_91 rfl (by decide) rfl ?_
  refine ev_iconst (v := 0) dd_X12_sells_92 (by decide) ?_
  refine ev_istore_n (i := 3) (lv' := [(0, .ref (G.2.1 + t)), (1, .int a1), (2, .int 1), (3, .int 0)]) [1, 2, 3, 0] dd_X12_sells_93 rfl (by decide) rfl ?_
  refine ct_X12_sells_L94 l hl G t ht a1 _ (fun y1 M9 => ?_) zN _ _ _
  refine ev_iconst (v := 0) dd_X12_sells_112 (by decide) ?_
  refine ev_istore_n (i := 3) (lv' := [(0, .ref (G.2.1 + t)), (1, .int a1), (2, .int y1), (3, .int 0)]) [1, 2, 3, 0] dd_X12_sells_113 rfl (by decide) rfl ?_
  refine ct_X12_sells_L114 l hl G t ht a1 y1 _ (fun M24 => ?_) zN _ _
  exact ev_vret dd_X12_sells_400 rfl (Nat.le_of_ble_eq_true rfl) rfl
/-! X12_look -/
theorem dd_X12_look_0 : decode Y_X12_look.2.1 0 = .ok (.aload_n 0, 1) := by decide +kernel
theorem dd_X12_look_1 : decode Y_X12_look.2.1 1 = .ok (.iconst 0, 1) := by decide +kernel
theorem dd_X12_look_2 : decode Y_X12_look.2.1 2 = .ok (.putfield 153, 3) := by decide +kernel
theorem dd_X12_look_5 : decode Y_X12_look.2.1 5 = .ok (.aload_n 0, 1) := by decide +kernel
theorem dd_X12_look_6 : decode Y_X12_look.2.1 6 = .ok (.iload_n 1, 1) := by decide +kernel
theorem dd_X12_look_7 : decode Y_X12_look.2.1 7 = .ok (.iconst 0, 1) := by decide +kernel
theorem dd_X12_look_8 : decode Y_X12_look.2.1 8 = .ok (.iconst 3, 1) := by decide +kernel
theorem dd_X12_look_9 : decode Y_X12_look.2.1 9 = .ok (.invokestatic 339, 3) := by decide +kernel
theorem dd_X12_look_12 : decode Y_X12_look.2.1 12 = .ok (.iconst 1, 1) := by decide +kernel
theorem dd_X12_look_13 : decode Y_X12_look.2.1 13 = .ok (.invokevirtual 312, 3) := by decide +kernel
theorem dd_X12_look_16 : decode Y_X12_look.2.1 16 = .ok (.ifCond .ne 5, 3) := by decide +kernel
theorem dd_X12_look_19 : decode Y_X12_look.2.1 19 = .ok (.iconst 0, 1) := by decide +kernel
theorem dd_X12_look_20 : decode Y_X12_look.2.1 20 = .ok (.ireturn, 1) := by decide +kernel
theorem dd_X12_look_21 : decode Y_X12_look.2.1 21 = .ok (.aload_n 0, 1) := by decide +kernel
theorem dd_X12_look_22 : decode Y_X12_look.2.1 22 = .ok (.iload_n 1, 1) := by decide +kernel
theorem dd_X12_look_23 : decode Y_X12_look.2.1 23 = .ok (.invokevirtual 459, 3) := by decide +kernel
theorem dd_X12_look_26 : decode Y_X12_look.2.1 26 = .ok (.iconst (-1), 1) := by decide +kernel
theorem dd_X12_look_27 : decode Y_X12_look.2.1 27 = .ok (.istore_n 2, 1) := by decide +kernel
theorem dd_X12_look_28 : decode Y_X12_look.2.1 28 = .ok (.iconst 0, 1) := by decide +kernel
theorem dd_X12_look_29 : decode Y_X12_look.2.1 29 = .ok (.istore_n 3, 1) := by decide +kernel
theorem dd_X12_look_30 : decode Y_X12_look.2.1 30 = .ok (.iconst 0, 1) := by decide +kernel
theorem dd_X12_look_31 : decode Y_X12_look.2.1 31 = .ok (.istore 4, 2) := by decide +kernel
theorem dd_X12_look_33 : decode Y_X12_look.2.1 33 = .ok (.iload 4, 2) := by decide +kernel
theorem dd_X12_look_35 : decode Y_X12_look.2.1 35 = .ok (.aload_n 0, 1) := by decide +kernel
theorem dd_X12_look_36 : decode Y_X12_look.2.1 36 = .ok (.getfield 319, 3) := by decide +kernel
theorem dd_X12_look_39 : decode Y_X12_look.2.1 39 = .ok (.if_icmp .ge 95, 3) := by decide +kernel
theorem dd_X12_look_42 : decode Y_X12_look.2.1 42 = .ok (.aload_n 0, 1) := by decide +kernel
theorem dd_X12_look_43 : decode Y_X12_look.2.1 43 = .ok (.getfield 456, 3) := by decide +kernel
theorem dd_X12_look_46 : decode Y_X12_look.2.1 46 = .ok (.ifCond .le 88, 3) := by decide +kernel
theorem dd_X12_look_49 : decode Y_X12_look.2.1 49 = .ok (.iconst 0, 1) := by decide +kernel
theorem dd_X12_look_50 : decode Y_X12_look.2.1 50 = .ok (.istore 5, 2) := by decide +kernel
theorem dd_X12_look_52 : decode Y_X12_look.2.1 52 = .ok (.iconst 0, 1) := by decide +kernel
theorem dd_X12_look_53 : decode Y_X12_look.2.1 53 = .ok (.istore 6, 2) := by decide +kernel
theorem dd_X12_look_55 : decode Y_X12_look.2.1 55 = .ok (.iload 6, 2) := by decide +kernel
theorem dd_X12_look_57 : decode Y_X12_look.2.1 57 = .ok (.aload_n 0, 1) := by decide +kernel
theorem dd_X12_look_58 : decode Y_X12_look.2.1 58 = .ok (.getfield 319, 3) := by decide +kernel
theorem dd_X12_look_61 : decode Y_X12_look.2.1 61 = .ok (.if_icmp .ge 47, 3) := by decide +kernel
theorem dd_X12_look_64 : decode Y_X12_look.2.1 64 = .ok (.aload_n 0, 1) := by decide +kernel
theorem dd_X12_look_65 : decode Y_X12_look.2.1 65 = .ok (.getfield 141, 3) := by decide +kernel
theorem dd_X12_look_68 : decode Y_X12_look.2.1 68 = .ok (.bipush 8, 2) := by decide +kernel
theorem dd_X12_look_70 : decode Y_X12_look.2.1 70 = .ok (.iload 4, 2) := by decide +kernel
theorem dd_X12_look_72 : decode Y_X12_look.2.1 72 = .ok (.imul, 1) := by decide +kernel
theorem dd_X12_look_73 : decode Y_X12_look.2.1 73 = .ok (.iload 6, 2) := by decide +kernel
theorem dd_X12_look_75 : decode Y_X12_look.2.1 75 = .ok (.iadd, 1) := by decide +kernel
theorem dd_X12_look_76 : decode Y_X12_look.2.1 76 = .ok (.iaload, 1) := by decide +kernel
theorem dd_X12_look_77 : decode Y_X12_look.2.1 77 = .ok (.iload 5, 2) := by decide +kernel
theorem dd_X12_look_79 : decode Y_X12_look.2.1 79 = .ok (.if_icmp .le 19, 3) := by decide +kernel
theorem dd_X12_look_82 : decode Y_X12_look.2.1 82 = .ok (.aload_n 0, 1) := by decide +kernel
theorem dd_X12_look_83 : decode Y_X12_look.2.1 83 = .ok (.getfield 141, 3) := by decide +kernel
theorem dd_X12_look_86 : decode Y_X12_look.2.1 86 = .ok (.bipush 8, 2) := by decide +kernel
theorem dd_X12_look_88 : decode Y_X12_look.2.1 88 = .ok (.iload 4, 2) := by decide +kernel
theorem dd_X12_look_90 : decode Y_X12_look.2.1 90 = .ok (.imul, 1) := by decide +kernel
theorem dd_X12_look_91 : decode Y_X12_look.2.1 91 = .ok (.iload 6, 2) := by decide +kernel
theorem dd_X12_look_93 : decode Y_X12_look.2.1 93 = .ok (.iadd, 1) := by decide +kernel
theorem dd_X12_look_94 : decode Y_X12_look.2.1 94 = .ok (.iaload, 1) := by decide +kernel
theorem dd_X12_look_95 : decode Y_X12_look.2.1 95 = .ok (.goto 5, 3) := by decide +kernel
theorem dd_X12_look_98 : decode Y_X12_look.2.1 98 = .ok (.iload 5, 2) := by decide +kernel
theorem dd_X12_look_100 : decode Y_X12_look.2.1 100 = .ok (.istore 5, 2) := by decide +kernel
theorem dd_X12_look_102 : decode Y_X12_look.2.1 102 = .ok (.iinc 6 1, 3) := by decide +kernel
theorem dd_X12_look_105 : decode Y_X12_look.2.1 105 = .ok (.goto (-50), 3) := by decide +kernel
theorem dd_X12_look_108 : decode Y_X12_look.2.1 108 = .ok (.iload_n 2, 1) := by decide +kernel
theorem dd_X12_look_109 : decode Y_X12_look.2.1 109 = .ok (.iconst (-1), 1) := by decide +kernel
theorem dd_X12_look_110 : decode Y_X12_look.2.1 110 = .ok (.if_icmp .eq 12, 3) := by decide +kernel
theorem dd_X12_look_113 : decode Y_X12_look.2.1 113 = .ok (.iload 5, 2) := by decide +kernel
theorem dd_X12_look_115 : decode Y_X12_look.2.1 115 = .ok (.iload_n 3, 1) := by decide +kernel
theorem dd_X12_look_116 : decode Y_X12_look.2.1 116 = .ok (.if_icmp .lt 6, 3) := by decide +kernel
theorem dd_X12_look_119 : decode Y_X12_look.2.1 119 = .ok (.goto 9, 3) := by decide +kernel
theorem dd_X12_look_122 : decode Y_X12_look.2.1 122 = .ok (.iload 4, 2) := by decide +kernel
theorem dd_X12_look_124 : decode Y_X12_look.2.1 124 = .ok (.istore_n 2, 1) := by decide +kernel
theorem dd_X12_look_125 : decode Y_X12_look.2.1 125 = .ok (.iload 5, 2) := by decide +kernel
theorem dd_X12_look_127 : decode Y_X12_look.2.1 127 = .ok (.istore_n 3, 1) := by decide +kernel
theorem dd_X12_look_128 : decode Y_X12_look.2.1 128 = .ok (.iinc 4 1, 3) := by decide +kernel
theorem dd_X12_look_131 : decode Y_X12_look.2.1 131 = .ok (.goto (-98), 3) := by decide +kernel
theorem dd_X12_look_134 : decode Y_X12_look.2.1 134 = .ok (.iload_n 2, 1) := by decide +kernel
theorem dd_X12_look_135 : decode Y_X12_look.2.1 135 = .ok (.ireturn, 1) := by decide +kernel
def F_X12_look_L55 (x0 : Nat) (x2 : Int32) (x3 : Int32) (x4 : Int32) (K108 : Int32 → zM → zO) : Nat → Int32 → Int32 → zM → zO
  | 0, _, _, _ => none
  | n + 1, x5, x6, M => zit ((M x0 1) ≤ x6) (K108 x5 M) (zck (zin ((8 * x4) + x6) 64) (zjo (fun (w1 : Int32) (M5 : zM) => F_X12_look_L55 x0 x2 x3 x4 K108 n w1 (x6 + 1) M5) (fun (k1 : Int32 → zM → zO) => zit ((M (zgr x0 69) (zix ((8 * x4) + x6))) ≤ x5) (k1 x5 M) (zck (zin ((8 * x4) + x6) 64) (k1 (M (zgr x0 69) (zix ((8 * x4) + x6))) M)))))
def F_X12_look_L33 (x0 : Nat) (K134 : Int32 → zM → zO) : Nat → Int32 → Int32 → Int32 → zM → zO
  | 0, _, _, _, _ => none
  | n + 1, x2, x3, x4, M => zit ((M x0 1) ≤ x4) (K134 x2 M) (zit ((M x0 71) ≤ 0) (K134 x2 M) (F_X12_look_L55 x0 x2 x3 x4 (fun (y1 : Int32) (M6 : zM) => zjo (fun (w2 : Int32) (w3 : Int32) (M8 : zM) => F_X12_look_L33 x0 K134 n w2 w3 (x4 + 1) M8) (fun (k2 : Int32 → Int32 → zM → zO) => zjo (fun  (M7 : zM) => k2 x4 y1 M7) (fun (k3 : zM → zO) => zit (x2 = (-1)) (k3 M6) (zit (y1 < x3) (k3 M6) (k2 x2 x3 M6))))) zN 0 0 M))
def F_X12_look (t : Nat) (a1 : Int32) (M : zM) : zO := zst (zup M t 0 0) (fun M1 => zbI (F_X12_within a1 0 3 M1) (fun r1 M2 => zbI (F_X12_right t r1 1 M2) (fun r2 M3 => zit (r2 = 0) (zI 0 M3) (zbV (F_X12_sells t a1 M3) (fun M4 => F_X12_look_L33 t (fun (y2 : Int32) (M9 : zM) => zI y2 M9) zN (-1) 0 0 M4)))))
set_option maxHeartbeats 1000000 in
set_option maxRecDepth 20000 in
theorem ct_X12_look_L55 (l : Launch) (hl : l.stackTraces = false) (G : zG) (x0 : Nat) (hx0 : zsh x0 = 12) (x2 : Int32) (x3 : Int32) (x4 : Int32) (K108 : Int32 → zM → zO) (hK108 : ∀ (x5 : Int32) (M : zM), zEv l G Y_X12_look 6 0 108 [(0, .ref (G.2.1 + x0)), (2, .int x2), (3, .int x3), (4, .int x4), (5, .int x5)] [] M (K108 x5 M)) : ∀ (n : Nat) (x5 : Int32) (x6 : Int32) (M : zM), zEv l G Y_X12_look 6 0 55 [(0, .ref (G.2.1 + x0)), (2, .int x2), (3, .int x3), (4, .int x4), (5, .int x5), (6, .int x6)] [] M (F_X12_look_L55 x0 x2 x3 x4 K108 n x5 x6 M) := by
  intro n
  induction n with
  | zero => intro x5 x6 M; exact ev_none
  | succ n ih =>
    intro x5 x6 M
    show zEv l G Y_X12_look 6 0 55 [(0, .ref (G.2.1 + x0)), (2, .int x2), (3, .int x3), (4, .int x4), (5, .int x5), (6, .int x6)] [] M (zit ((M x0 1) ≤ x6) (K108 x5 M) (zck (zin ((8 * x4) + x6) 64) (zjo (fun (w1 : Int32) (M5 : zM) => F_X12_look_L55 x0 x2 x3 x4 K108 n w1 (x6 + 1) M5) (fun (k1 : Int32 → zM → zO) => zit ((M (zgr x0 69) (zix ((8 * x4) + x6))) ≤ x5) (k1 x5 M) (zck (zin ((8 * x4) + x6) 64) (k1 (M (zgr x0 69) (zix ((8 * x4) + x6))) M))))))
    refine ev_iload dd_X12_look_55 5 rfl ?_
    refine ev_aload_n dd_X12_look_57 0 rfl ?_
    refine ev_getI gf_RX12_319 dd_X12_look_58 hx0 (by decide) ?_
    refine ev_icmp_ge 108 dd_X12_look_61 (by decide) ?_ ?_
    · refine ev_lv (lv' := [(0, .ref (G.2.1 + x0)), (2, .int x2), (3, .int x3), (4, .int x4), (5, .int x5)]) [0, 1, 2, 3, 4] rfl ?_
      exact hK108 _ _
    · refine ev_aload_n dd_X12_look_64 0 rfl ?_
      refine ev_getR gf_RX12_141 dd_X12_look_65 hx0 (by decide) ?_
      refine ev_bipush (v := 8) dd_X12_look_68 (by decide) ?_
      refine ev_iload dd_X12_look_70 3 rfl ?_
      refine ev_imul dd_X12_look_72 ?_
      refine ev_iload dd_X12_look_73 5 rfl ?_
      refine ev_iadd dd_X12_look_75 ?_
      refine ev_iald dd_X12_look_76 ((zg_12_69 hx0).1) ((zg_12_69 hx0).2) ?_
      refine ev_iload dd_X12_look_77 4 rfl ?_
      refine ev_jo (fun (k1 : Int32 → zM → zO) => ∀ (w1 : Int32) (M5 : zM), zEv l G Y_X12_look 6 0 100 [(0, .ref (G.2.1 + x0)), (2, .int x2), (3, .int x3), (4, .int x4), (6, .int x6)] [.int w1] M5 (k1 w1 M5)) ?_ (fun k1 hk1 => ?_)
      · intro w1 M5
        refine ev_istore (i := 5) (lv' := [(0, .ref (G.2.1 + x0)), (2, .int x2), (3, .int x3), (4, .int x4), (5, .int w1), (6, .int x6)]) [1, 2, 3, 4, 0, 5] dd_X12_look_100 (by decide) rfl ?_
        refine ev_iinc (j := 5) (v := 1) (lv' := [(0, .ref (G.2.1 + x0)), (2, .int x2), (3, .int x3), (4, .int x4), (5, .int w1), (6, .int (x6 + 1))]) [1, 2, 3, 4, 5, 0] dd_X12_look_102 rfl (by decide) (by decide) rfl ?_
        refine ev_goto 55 dd_X12_look_105 (by decide) ?_
        exact ih _ _ _
      · refine ev_icmp_le 98 dd_X12_look_79 (by decide) ?_ ?_
        · refine ev_iload dd_X12_look_98 4 rfl ?_
          refine ev_lv (lv' := [(0, .ref (G.2.1 + x0)), (2, .int x2), (3, .int x3), (4, .int x4), (6, .int x6)]) [0, 1, 2, 3, 5] rfl ?_
          exact hk1 _ _
        · refine ev_lv (lv' := [(0, .ref (G.2.1 + x0)), (2, .int x2), (3, .int x3), (4, .int x4), (6, .int x6)]) [0, 1, 2, 3, 5] rfl ?_
          refine ev_aload_n dd_X12_look_82 0 rfl ?_
          refine ev_getR gf_RX12_141 dd_X12_look_83 hx0 (by decide) ?_
          refine ev_bipush (v := 8) dd_X12_look_86 (by decide) ?_
          refine ev_iload dd_X12_look_88 3 rfl ?_
          refine ev_imul dd_X12_look_90 ?_
          refine ev_iload dd_X12_look_91 4 rfl ?_
          refine ev_iadd dd_X12_look_93 ?_
          refine ev_iald dd_X12_look_94 ((zg_12_69 hx0).1) ((zg_12_69 hx0).2) ?_
          refine ev_goto 100 dd_X12_look_95 (by decide) ?_
          exact hk1 _ _
set_option maxHeartbeats 1000000 in
set_option maxRecDepth 20000 in
theorem ct_X12_look_L33 (l : Launch) (hl : l.stackTraces = false) (G : zG) (x0 : Nat) (hx0 : zsh x0 = 12) (K134 : Int32 → zM → zO) (hK134 : ∀ (x2 : Int32) (M : zM), zEv l G Y_X12_look 6 0 134 [(2, .int x2)] [] M (K134 x2 M)) : ∀ (n : Nat) (x2 : Int32) (x3 : Int32) (x4 : Int32) (M : zM), zEv l G Y_X12_look 6 0 33 [(0, .ref (G.2.1 + x0)), (2, .int x2), (3, .int x3), (4, .int x4)] [] M (F_X12_look_L33 x0 K134 n x2 x3 x4 M) := by
  intro n
  induction n with
  | zero => intro x2 x3 x4 M; exact ev_none
  | succ n ih =>
    intro x2 x3 x4 M
    show zEv l G Y_X12_look 6 0 33 [(0, .ref (G.2.1 + x0)), (2, .int x2), (3, .int x3), (4, .int x4)] [] M (zit ((M x0 1) ≤ x4) (K134 x2 M) (zit ((M x0 71) ≤ 0) (K134 x2 M) (F_X12_look_L55 x0 x2 x3 x4 (fun (y1 : Int32) (M6 : zM) => zjo (fun (w2 : Int32) (w3 : Int32) (M8 : zM) => F_X12_look_L33 x0 K134 n w2 w3 (x4 + 1) M8) (fun (k2 : Int32 → Int32 → zM → zO) => zjo (fun  (M7 : zM) => k2 x4 y1 M7) (fun (k3 : zM → zO) => zit (x2 = (-1)) (k3 M6) (zit (y1 < x3) (k3 M6) (k2 x2 x3 M6))))) zN 0 0 M)))
    refine ev_iload dd_X12_look_33 3 rfl ?_
    refine ev_aload_n dd_X12_look_35 0 rfl ?_
    refine ev_getI gf_RX12_319 dd_X12_look_36 hx0 (by decide) ?_
    refine ev_icmp_ge 134 dd_X12_look_39 (by decide) ?_ ?_
    · refine ev_lv (lv' := [(2, .int x2)]) [1] rfl ?_
      exact hK134 _ _
    · refine ev_aload_n dd_X12_look_42 0 rfl ?_
      refine ev_getI gf_RX12_456 dd_X12_look_43 hx0 (by decide) ?_
      refine ev_if_le 134 dd_X12_look_46 (by decide) ?_ ?_
      · refine ev_lv (lv' := [(2, .int x2)]) [1] rfl ?_
        exact hK134 _ _
      · refine ev_iconst (v := 0) dd_X12_look_49 (by decide) ?_
        refine ev_istore (i := 5) (lv' := [(0, .ref (G.2.1 + x0)), (2, .int x2), (3, .int x3), (4, .int x4), (5, .int 0)]) [1, 2, 3, 4, 0] dd_X12_look_50 (by decide) rfl ?_
        refine ev_iconst (v := 0) dd_X12_look_52 (by decide) ?_
        refine ev_istore (i := 6) (lv' := [(0, .ref (G.2.1 + x0)), (2, .int x2), (3, .int x3), (4, .int x4), (5, .int 0), (6, .int 0)]) [1, 2, 3, 4, 5, 0] dd_X12_look_53 (by decide) rfl ?_
        refine ct_X12_look_L55 l hl G x0 hx0 x2 x3 x4 _ (fun y1 M6 => ?_) zN _ _ _
        refine ev_iload_n dd_X12_look_108 1 rfl ?_
        refine ev_iconst (v := (-1)) dd_X12_look_109 (by decide) ?_
        refine ev_jo (fun (k2 : Int32 → Int32 → zM → zO) => ∀ (w2 : Int32) (w3 : Int32) (M8 : zM), zEv l G Y_X12_look 6 0 128 [(0, .ref (G.2.1 + x0)), (2, .int w2), (3, .int w3), (4, .int x4)] [] M8 (k2 w2 w3 M8)) ?_ (fun k2 hk2 => ?_)
        · intro w2 w3 M8
          refine ev_iinc (j := 3) (v := 1) (lv' := [(0, .ref (G.2.1 + x0)), (2, .int w2), (3, .int w3), (4, .int (x4 + 1))]) [1, 2, 3, 0] dd_X12_look_128 rfl (by decide) (by decide) rfl ?_
          refine ev_goto 33 dd_X12_look_131 (by decide) ?_
          exact ih _ _ _ _
        · refine ev_jo (fun (k3 : zM → zO) => ∀  (M7 : zM), zEv l G Y_X12_look 6 0 122 [(0, .ref (G.2.1 + x0)), (4, .int x4), (5, .int y1)] [] M7 (k3 M7)) ?_ (fun k3 hk3 => ?_)
          · intro M7
            refine ev_iload dd_X12_look_122 1 rfl ?_
            refine ev_istore_n (i := 2) (lv' := [(0, .ref (G.2.1 + x0)), (2, .int x4), (4, .int x4), (5, .int y1)]) [1, 0, 2, 3] dd_X12_look_124 rfl (by decide) rfl ?_
            refine ev_iload dd_X12_look_125 3 rfl ?_
            refine ev_lv (lv' := [(0, .ref (G.2.1 + x0)), (2, .int x4), (4, .int x4)]) [0, 1, 2] rfl ?_
            refine ev_istore_n (i := 3) (lv' := [(0, .ref (G.2.1 + x0)), (2, .int x4), (3, .int y1), (4, .int x4)]) [1, 2, 0, 3] dd_X12_look_127 rfl (by decide) rfl ?_
            exact hk2 _ _ _
          · refine ev_icmp_eq 122 dd_X12_look_110 (by decide) ?_ ?_
            · refine ev_lv (lv' := [(0, .ref (G.2.1 + x0)), (4, .int x4), (5, .int y1)]) [0, 3, 4] rfl ?_
              exact hk3 _
            · refine ev_iload dd_X12_look_113 4 rfl ?_
              refine ev_iload_n dd_X12_look_115 2 rfl ?_
              refine ev_icmp_lt 122 dd_X12_look_116 (by decide) ?_ ?_
              · refine ev_lv (lv' := [(0, .ref (G.2.1 + x0)), (4, .int x4), (5, .int y1)]) [0, 3, 4] rfl ?_
                exact hk3 _
              · refine ev_lv (lv' := [(0, .ref (G.2.1 + x0)), (2, .int x2), (3, .int x3), (4, .int x4)]) [0, 1, 2, 3] rfl ?_
                refine ev_goto 128 dd_X12_look_119 (by decide) ?_
                exact hk2 _ _ _
set_option maxHeartbeats 1000000 in
set_option maxRecDepth 20000 in
theorem ct_X12_look (l : Launch) (hl : l.stackTraces = false) (G : zG) (t : Nat) (ht : zsh t = 12) (a1 : Int32) (M : zM) : zMt l G Y_X12_look 6 [.ref (G.2.1 + t), .int a1] M (F_X12_look t a1 M) := by
  refine zMt_of (by decide +kernel) (Nat.le_of_ble_eq_true rfl) ?_
  show zEv l G Y_X12_look 6 0 0 [(0, .ref (G.2.1 + t)), (1, .int a1)] [] M (zst (zup M t 0 0) (fun M1 => zbI (F_X12_within a1 0 3 M1) (fun r1 M2 => zbI (F_X12_right t r1 1 M2) (fun r2 M3 => zit (r2 = 0) (zI 0 M3) (zbV (F_X12_sells t a1 M3) (fun M4 => F_X12_look_L33 t (fun (y2 : Int32) (M9 : zM) => zI y2 M9) zN (-1) 0 0 M4))))))
  refine ev_aload_n dd_X12_look_0 0 rfl ?_
  refine ev_iconst (v := 0) dd_X12_look_1 (by decide) ?_
  refine ev_putI gw_RX12_153 dd_X12_look_2 ht (by decide) ?_
  refine ev_st (fun M1 => ?_)
  refine ev_aload_n dd_X12_look_5 0 rfl ?_
  refine ev_iload_n dd_X12_look_6 1 rfl ?_
  refine ev_iconst (v := 0) dd_X12_look_7 (by decide) ?_
  refine ev_iconst (v := 3) dd_X12_look_8 (by decide) ?_
  refine ev_callSI (As := [.int a1, .int 0, .int 3]) cl_RX12_339 (ct_X12_within l hl G a1 0 3 M1) dd_X12_look_9 (by decide) (Nat.le_of_ble_eq_true rfl) (Nat.le_of_ble_eq_true rfl) rfl rfl (fun r1 M2 => ?_)
  refine ev_iconst (v := 1) dd_X12_look_12 (by decide) ?_
  refine ev_callVI (As := [.int r1, .int 1]) cl_RX12_312 (ct_X12_right l hl G t ht r1 1 M2) dd_X12_look_13 ht (by decide) (Nat.le_of_ble_eq_true rfl) (Nat.le_of_ble_eq_true rfl) rfl rfl (fun r2 M3 => ?_)
  refine ev_if_ne 21 dd_X12_look_16 (by decide) ?_ ?_
  · refine ev_aload_n dd_X12_look_21 0 rfl ?_
    refine ev_iload_n dd_X12_look_22 1 rfl ?_
    refine ev_lv (lv' := [(0, .ref (G.2.1 + t))]) [0] rfl ?_
    refine ev_callVV (As := [.int a1]) cl_RX12_459 (ct_X12_sells l hl G t ht a1 M3) dd_X12_look_23 ht (by decide) (Nat.le_of_ble_eq_true rfl) (Nat.le_of_ble_eq_true rfl) rfl rfl (fun M4 => ?_)
    refine ev_iconst (v := (-1)) dd_X12_look_26 (by decide) ?_
    refine ev_istore_n (i := 2) (lv' := [(0, .ref (G.2.1 + t)), (2, .int (-1))]) [1, 0] dd_X12_look_27 rfl (by decide) rfl ?_
    refine ev_iconst (v := 0) dd_X12_look_28 (by decide) ?_
    refine ev_istore_n (i := 3) (lv' := [(0, .ref (G.2.1 + t)), (2, .int (-1)), (3, .int 0)]) [1, 2, 0] dd_X12_look_29 rfl (by decide) rfl ?_
    refine ev_iconst (v := 0) dd_X12_look_30 (by decide) ?_
    refine ev_istore (i := 4) (lv' := [(0, .ref (G.2.1 + t)), (2, .int (-1)), (3, .int 0), (4, .int 0)]) [1, 2, 3, 0] dd_X12_look_31 (by decide) rfl ?_
    refine ct_X12_look_L33 l hl G t ht _ (fun y2 M9 => ?_) zN _ _ _ _
    refine ev_iload_n dd_X12_look_134 0 rfl ?_
    refine ev_lv (lv' := []) [] rfl ?_
    exact ev_iret dd_X12_look_135 rfl (Nat.le_of_ble_eq_true rfl) rfl
  · refine ev_lv (lv' := []) [] rfl ?_
    refine ev_iconst (v := 0) dd_X12_look_19 (by decide) ?_
    exact ev_iret dd_X12_look_20 rfl (Nat.le_of_ble_eq_true rfl) rfl
/-! X12_may -/
theorem dd_X12_may_0 : decode Y_X12_may.2.1 0 = .ok (.aload_n 0, 1) := by decide +kernel
theorem dd_X12_may_1 : decode Y_X12_may.2.1 1 = .ok (.iconst 0, 1) := by decide +kernel
theorem dd_X12_may_2 : decode Y_X12_may.2.1 2 = .ok (.putfield 153, 3) := by decide +kernel
theorem dd_X12_may_5 : decode Y_X12_may.2.1 5 = .ok (.aload_n 0, 1) := by decide +kernel
theorem dd_X12_may_6 : decode Y_X12_may.2.1 6 = .ok (.iload_n 1, 1) := by decide +kernel
theorem dd_X12_may_7 : decode Y_X12_may.2.1 7 = .ok (.iload_n 2, 1) := by decide +kernel
theorem dd_X12_may_8 : decode Y_X12_may.2.1 8 = .ok (.invokevirtual 357, 3) := by decide +kernel
theorem dd_X12_may_11 : decode Y_X12_may.2.1 11 = .ok (.ifCond .eq 20, 3) := by decide +kernel
theorem dd_X12_may_14 : decode Y_X12_may.2.1 14 = .ok (.aload_n 0, 1) := by decide +kernel
theorem dd_X12_may_15 : decode Y_X12_may.2.1 15 = .ok (.aload_n 0, 1) := by decide +kernel
theorem dd_X12_may_16 : decode Y_X12_may.2.1 16 = .ok (.getfield 87, 3) := by decide +kernel
theorem dd_X12_may_19 : decode Y_X12_may.2.1 19 = .ok (.iload_n 1, 1) := by decide +kernel
theorem dd_X12_may_20 : decode Y_X12_may.2.1 20 = .ok (.iload_n 2, 1) := by decide +kernel
theorem dd_X12_may_21 : decode Y_X12_may.2.1 21 = .ok (.invokevirtual 381, 3) := by decide +kernel
theorem dd_X12_may_24 : decode Y_X12_may.2.1 24 = .ok (.ifCond .eq 7, 3) := by decide +kernel
theorem dd_X12_may_27 : decode Y_X12_may.2.1 27 = .ok (.iconst 1, 1) := by decide +kernel
theorem dd_X12_may_28 : decode Y_X12_may.2.1 28 = .ok (.goto 4, 3) := by decide +kernel
theorem dd_X12_may_31 : decode Y_X12_may.2.1 31 = .ok (.iconst 0, 1) := by decide +kernel
theorem dd_X12_may_32 : decode Y_X12_may.2.1 32 = .ok (.ireturn, 1) := by decide +kernel
def F_X12_may (t : Nat) (a1 : Int32) (a2 : Int32) (M : zM) : zO := zst (zup M t 0 0) (fun M1 => zbI (F_X12_areTwo t a1 a2 M1) (fun r1 M2 => zjo (fun (w1 : Int32) (M5 : zM) => zck (zbo w1) (zI w1 M5)) (fun (k1 : Int32 → zM → zO) => zjo (fun  (M4 : zM) => k1 0 M4) (fun (k2 : zM → zO) => zit (r1 = 0) (k2 M2) (zbI (F_X12_maySwap t (zgr t 47) a1 a2 M2) (fun r2 M3 => zit (r2 = 0) (k2 M3) (k1 1 M3)))))))
set_option maxHeartbeats 1000000 in
set_option maxRecDepth 20000 in
theorem ct_X12_may (l : Launch) (hl : l.stackTraces = false) (G : zG) (t : Nat) (ht : zsh t = 12) (a1 : Int32) (a2 : Int32) (M : zM) : zMt l G Y_X12_may 5 [.ref (G.2.1 + t), .int a1, .int a2] M (F_X12_may t a1 a2 M) := by
  refine zMt_of (by decide +kernel) (Nat.le_of_ble_eq_true rfl) ?_
  show zEv l G Y_X12_may 5 0 0 [(0, .ref (G.2.1 + t)), (1, .int a1), (2, .int a2)] [] M (zst (zup M t 0 0) (fun M1 => zbI (F_X12_areTwo t a1 a2 M1) (fun r1 M2 => zjo (fun (w1 : Int32) (M5 : zM) => zck (zbo w1) (zI w1 M5)) (fun (k1 : Int32 → zM → zO) => zjo (fun  (M4 : zM) => k1 0 M4) (fun (k2 : zM → zO) => zit (r1 = 0) (k2 M2) (zbI (F_X12_maySwap t (zgr t 47) a1 a2 M2) (fun r2 M3 => zit (r2 = 0) (k2 M3) (k1 1 M3))))))))
  refine ev_aload_n dd_X12_may_0 0 rfl ?_
  refine ev_iconst (v := 0) dd_X12_may_1 (by decide) ?_
  refine ev_putI gw_RX12_153 dd_X12_may_2 ht (by decide) ?_
  refine ev_st (fun M1 => ?_)
  refine ev_aload_n dd_X12_may_5 0 rfl ?_
  refine ev_iload_n dd_X12_may_6 1 rfl ?_
  refine ev_iload_n dd_X12_may_7 2 rfl ?_
  refine ev_callVI (As := [.int a1, .int a2]) cl_RX12_357 (ct_X12_areTwo l hl G t ht a1 a2 M1) dd_X12_may_8 ht (by decide) (Nat.le_of_ble_eq_true rfl) (Nat.le_of_ble_eq_true rfl) rfl rfl (fun r1 M2 => ?_)
  refine ev_jo (fun (k1 : Int32 → zM → zO) => ∀ (w1 : Int32) (M5 : zM), zEv l G Y_X12_may 5 0 32 [] [.int w1] M5 (k1 w1 M5)) ?_ (fun k1 hk1 => ?_)
  · intro w1 M5
    exact ev_zret dd_X12_may_32 rfl (Nat.le_of_ble_eq_true rfl) rfl
  · refine ev_jo (fun (k2 : zM → zO) => ∀  (M4 : zM), zEv l G Y_X12_may 5 0 31 [] [] M4 (k2 M4)) ?_ (fun k2 hk2 => ?_)
    · intro M4
      refine ev_iconst (v := 0) dd_X12_may_31 (by decide) ?_
      exact hk1 _ _
    · refine ev_if_eq 31 dd_X12_may_11 (by decide) ?_ ?_
      · refine ev_lv (lv' := []) [] rfl ?_
        exact hk2 _
      · refine ev_aload_n dd_X12_may_14 0 rfl ?_
        refine ev_aload_n dd_X12_may_15 0 rfl ?_
        refine ev_lv (lv' := [(1, .int a1), (2, .int a2)]) [1, 2] rfl ?_
        refine ev_getR gf_RX12_87 dd_X12_may_16 ht (by decide) ?_
        refine ev_iload_n dd_X12_may_19 0 rfl ?_
        refine ev_lv (lv' := [(2, .int a2)]) [1] rfl ?_
        refine ev_iload_n dd_X12_may_20 0 rfl ?_
        refine ev_lv (lv' := []) [] rfl ?_
        refine ev_callVI (As := [.ref (G.2.1 + (zgr t 47)), .int a1, .int a2]) cl_RX12_381 (ct_X12_maySwap l hl G t ht (zgr t 47) ((zg_12_47 ht).1) a1 a2 M2) dd_X12_may_21 ht (by decide) (Nat.le_of_ble_eq_true rfl) (Nat.le_of_ble_eq_true rfl) rfl rfl (fun r2 M3 => ?_)
        refine ev_if_eq 31 dd_X12_may_24 (by decide) ?_ ?_
        · exact hk2 _
        · refine ev_iconst (v := 1) dd_X12_may_27 (by decide) ?_
          refine ev_goto 32 dd_X12_may_28 (by decide) ?_
          exact hk1 _ _
/-! X12_name -/
theorem dd_X12_name_0 : decode Y_X12_name.2.1 0 = .ok (.aload_n 0, 1) := by decide +kernel
theorem dd_X12_name_1 : decode Y_X12_name.2.1 1 = .ok (.iconst 0, 1) := by decide +kernel
theorem dd_X12_name_2 : decode Y_X12_name.2.1 2 = .ok (.putfield 153, 3) := by decide +kernel
theorem dd_X12_name_5 : decode Y_X12_name.2.1 5 = .ok (.aload_n 0, 1) := by decide +kernel
theorem dd_X12_name_6 : decode Y_X12_name.2.1 6 = .ok (.iload_n 1, 1) := by decide +kernel
theorem dd_X12_name_7 : decode Y_X12_name.2.1 7 = .ok (.invokevirtual 346, 3) := by decide +kernel
theorem dd_X12_name_10 : decode Y_X12_name.2.1 10 = .ok (.ifCond .eq 12, 3) := by decide +kernel
theorem dd_X12_name_13 : decode Y_X12_name.2.1 13 = .ok (.aload_n 0, 1) := by decide +kernel
theorem dd_X12_name_14 : decode Y_X12_name.2.1 14 = .ok (.iload_n 2, 1) := by decide +kernel
theorem dd_X12_name_15 : decode Y_X12_name.2.1 15 = .ok (.iconst 4, 1) := by decide +kernel
theorem dd_X12_name_16 : decode Y_X12_name.2.1 16 = .ok (.invokevirtual 349, 3) := by decide +kernel
theorem dd_X12_name_19 : decode Y_X12_name.2.1 19 = .ok (.ifCond .ne 5, 3) := by decide +kernel
theorem dd_X12_name_22 : decode Y_X12_name.2.1 22 = .ok (.iconst 0, 1) := by decide +kernel
theorem dd_X12_name_23 : decode Y_X12_name.2.1 23 = .ok (.ireturn, 1) := by decide +kernel
theorem dd_X12_name_24 : decode Y_X12_name.2.1 24 = .ok (.iload_n 2, 1) := by decide +kernel
theorem dd_X12_name_25 : decode Y_X12_name.2.1 25 = .ok (.ifCond .ne 12, 3) := by decide +kernel
theorem dd_X12_name_28 : decode Y_X12_name.2.1 28 = .ok (.aload_n 0, 1) := by decide +kernel
theorem dd_X12_name_29 : decode Y_X12_name.2.1 29 = .ok (.getfield 20, 3) := by decide +kernel
theorem dd_X12_name_32 : decode Y_X12_name.2.1 32 = .ok (.iload_n 1, 1) := by decide +kernel
theorem dd_X12_name_33 : decode Y_X12_name.2.1 33 = .ok (.iaload, 1) := by decide +kernel
theorem dd_X12_name_34 : decode Y_X12_name.2.1 34 = .ok (.goto 54, 3) := by decide +kernel
theorem dd_X12_name_37 : decode Y_X12_name.2.1 37 = .ok (.iload_n 2, 1) := by decide +kernel
theorem dd_X12_name_38 : decode Y_X12_name.2.1 38 = .ok (.iconst 1, 1) := by decide +kernel
theorem dd_X12_name_39 : decode Y_X12_name.2.1 39 = .ok (.if_icmp .ne 12, 3) := by decide +kernel
theorem dd_X12_name_42 : decode Y_X12_name.2.1 42 = .ok (.aload_n 0, 1) := by decide +kernel
theorem dd_X12_name_43 : decode Y_X12_name.2.1 43 = .ok (.getfield 23, 3) := by decide +kernel
theorem dd_X12_name_46 : decode Y_X12_name.2.1 46 = .ok (.iload_n 1, 1) := by decide +kernel
theorem dd_X12_name_47 : decode Y_X12_name.2.1 47 = .ok (.iaload, 1) := by decide +kernel
theorem dd_X12_name_48 : decode Y_X12_name.2.1 48 = .ok (.goto 40, 3) := by decide +kernel
theorem dd_X12_name_51 : decode Y_X12_name.2.1 51 = .ok (.iload_n 2, 1) := by decide +kernel
theorem dd_X12_name_52 : decode Y_X12_name.2.1 52 = .ok (.iconst 2, 1) := by decide +kernel
theorem dd_X12_name_53 : decode Y_X12_name.2.1 53 = .ok (.if_icmp .ne 12, 3) := by decide +kernel
theorem dd_X12_name_56 : decode Y_X12_name.2.1 56 = .ok (.aload_n 0, 1) := by decide +kernel
theorem dd_X12_name_57 : decode Y_X12_name.2.1 57 = .ok (.getfield 26, 3) := by decide +kernel
theorem dd_X12_name_60 : decode Y_X12_name.2.1 60 = .ok (.iload_n 1, 1) := by decide +kernel
theorem dd_X12_name_61 : decode Y_X12_name.2.1 61 = .ok (.iaload, 1) := by decide +kernel
theorem dd_X12_name_62 : decode Y_X12_name.2.1 62 = .ok (.goto 26, 3) := by decide +kernel
theorem dd_X12_name_65 : decode Y_X12_name.2.1 65 = .ok (.iload_n 2, 1) := by decide +kernel
theorem dd_X12_name_66 : decode Y_X12_name.2.1 66 = .ok (.iconst 3, 1) := by decide +kernel
theorem dd_X12_name_67 : decode Y_X12_name.2.1 67 = .ok (.if_icmp .ne 12, 3) := by decide +kernel
theorem dd_X12_name_70 : decode Y_X12_name.2.1 70 = .ok (.aload_n 0, 1) := by decide +kernel
theorem dd_X12_name_71 : decode Y_X12_name.2.1 71 = .ok (.getfield 29, 3) := by decide +kernel
theorem dd_X12_name_74 : decode Y_X12_name.2.1 74 = .ok (.iload_n 1, 1) := by decide +kernel
theorem dd_X12_name_75 : decode Y_X12_name.2.1 75 = .ok (.iaload, 1) := by decide +kernel
theorem dd_X12_name_76 : decode Y_X12_name.2.1 76 = .ok (.goto 12, 3) := by decide +kernel
theorem dd_X12_name_79 : decode Y_X12_name.2.1 79 = .ok (.aload_n 0, 1) := by decide +kernel
theorem dd_X12_name_80 : decode Y_X12_name.2.1 80 = .ok (.aload_n 0, 1) := by decide +kernel
theorem dd_X12_name_81 : decode Y_X12_name.2.1 81 = .ok (.getfield 87, 3) := by decide +kernel
theorem dd_X12_name_84 : decode Y_X12_name.2.1 84 = .ok (.iload_n 1, 1) := by decide +kernel
theorem dd_X12_name_85 : decode Y_X12_name.2.1 85 = .ok (.invokevirtual 353, 3) := by decide +kernel
theorem dd_X12_name_88 : decode Y_X12_name.2.1 88 = .ok (.ireturn, 1) := by decide +kernel
def F_X12_name (t : Nat) (a1 : Int32) (a2 : Int32) (M : zM) : zO := zst (zup M t 0 0) (fun M1 => zbI (F_X12_isOne t a1 M1) (fun r1 M2 => zjo (fun  (M6 : zM) => zI 0 M6) (fun (k1 : zM → zO) => zit (r1 = 0) (k1 M2) (zbI (F_X12_isWhat t a2 4 M2) (fun r2 M3 => zit (r2 = 0) (k1 M3) (zjo (fun (w1 : Int32) (M5 : zM) => zI w1 M5) (fun (k2 : Int32 → zM → zO) => zit (a2 = 0) (zck (zin a1 8) (k2 (M3 (zgr t 6) (zix a1)) M3)) (zit (a2 = 1) (zck (zin a1 8) (k2 (M3 (zgr t 7) (zix a1)) M3)) (zit (a2 = 2) (zck (zin a1 8) (k2 (M3 (zgr t 8) (zix a1)) M3)) (zit (a2 = 3) (zck (zin a1 8) (k2 (M3 (zgr t 9) (zix a1)) M3)) (zbI (F_X12_holder t (zgr t 47) a1 M3) (fun r3 M4 => k2 r3 M4))))))))))))
set_option maxHeartbeats 1000000 in
set_option maxRecDepth 20000 in
theorem ct_X12_name (l : Launch) (hl : l.stackTraces = false) (G : zG) (t : Nat) (ht : zsh t = 12) (a1 : Int32) (a2 : Int32) (M : zM) : zMt l G Y_X12_name 3 [.ref (G.2.1 + t), .int a1, .int a2] M (F_X12_name t a1 a2 M) := by
  refine zMt_of (by decide +kernel) (Nat.le_of_ble_eq_true rfl) ?_
  show zEv l G Y_X12_name 3 0 0 [(0, .ref (G.2.1 + t)), (1, .int a1), (2, .int a2)] [] M (zst (zup M t 0 0) (fun M1 => zbI (F_X12_isOne t a1 M1) (fun r1 M2 => zjo (fun  (M6 : zM) => zI 0 M6) (fun (k1 : zM → zO) => zit (r1 = 0) (k1 M2) (zbI (F_X12_isWhat t a2 4 M2) (fun r2 M3 => zit (r2 = 0) (k1 M3) (zjo (fun (w1 : Int32) (M5 : zM) => zI w1 M5) (fun (k2 : Int32 → zM → zO) => zit (a2 = 0) (zck (zin a1 8) (k2 (M3 (zgr t 6) (zix a1)) M3)) (zit (a2 = 1) (zck (zin a1 8) (k2 (M3 (zgr t 7) (zix a1)) M3)) (zit (a2 = 2) (zck (zin a1 8) (k2 (M3 (zgr t 8) (zix a1)) M3)) (zit (a2 = 3) (zck (zin a1 8) (k2 (M3 (zgr t 9) (zix a1)) M3)) (zbI (F_X12_holder t (zgr t 47) a1 M3) (fun r3 M4 => k2 r3 M4)))))))))))))
  refine ev_aload_n dd_X12_name_0 0 rfl ?_
  refine ev_iconst (v := 0) dd_X12_name_1 (by decide) ?_
  refine ev_putI gw_RX12_153 dd_X12_name_2 ht (by decide) ?_
  refine ev_st (fun M1 => ?_)
  refine ev_aload_n dd_X12_name_5 0 rfl ?_
  refine ev_iload_n dd_X12_name_6 1 rfl ?_
  refine ev_callVI (As := [.int a1]) cl_RX12_346 (ct_X12_isOne l hl G t ht a1 M1) dd_X12_name_7 ht (by decide) (Nat.le_of_ble_eq_true rfl) (Nat.le_of_ble_eq_true rfl) rfl rfl (fun r1 M2 => ?_)
  refine ev_jo (fun (k1 : zM → zO) => ∀  (M6 : zM), zEv l G Y_X12_name 3 0 22 [] [] M6 (k1 M6)) ?_ (fun k1 hk1 => ?_)
  · intro M6
    refine ev_iconst (v := 0) dd_X12_name_22 (by decide) ?_
    exact ev_iret dd_X12_name_23 rfl (Nat.le_of_ble_eq_true rfl) rfl
  · refine ev_if_eq 22 dd_X12_name_10 (by decide) ?_ ?_
    · refine ev_lv (lv' := []) [] rfl ?_
      exact hk1 _
    · refine ev_aload_n dd_X12_name_13 0 rfl ?_
      refine ev_iload_n dd_X12_name_14 2 rfl ?_
      refine ev_iconst (v := 4) dd_X12_name_15 (by decide) ?_
      refine ev_callVI (As := [.int a2, .int 4]) cl_RX12_349 (ct_X12_isWhat l hl G t ht a2 4 M2) dd_X12_name_16 ht (by decide) (Nat.le_of_ble_eq_true rfl) (Nat.le_of_ble_eq_true rfl) rfl rfl (fun r2 M3 => ?_)
      refine ev_if_ne 24 dd_X12_name_19 (by decide) ?_ ?_
      · refine ev_iload_n dd_X12_name_24 2 rfl ?_
        refine ev_jo (fun (k2 : Int32 → zM → zO) => ∀ (w1 : Int32) (M5 : zM), zEv l G Y_X12_name 3 0 88 [] [.int w1] M5 (k2 w1 M5)) ?_ (fun k2 hk2 => ?_)
        · intro w1 M5
          exact ev_iret dd_X12_name_88 rfl (Nat.le_of_ble_eq_true rfl) rfl
        · refine ev_if_ne 37 dd_X12_name_25 (by decide) ?_ ?_
          · refine ev_iload_n dd_X12_name_37 2 rfl ?_
            refine ev_iconst (v := 1) dd_X12_name_38 (by decide) ?_
            refine ev_icmp_ne 51 dd_X12_name_39 (by decide) ?_ ?_
            · refine ev_iload_n dd_X12_name_51 2 rfl ?_
              refine ev_iconst (v := 2) dd_X12_name_52 (by decide) ?_
              refine ev_icmp_ne 65 dd_X12_name_53 (by decide) ?_ ?_
              · refine ev_iload_n dd_X12_name_65 2 rfl ?_
                refine ev_lv (lv' := [(0, .ref (G.2.1 + t)), (1, .int a1)]) [0, 1] rfl ?_
                refine ev_iconst (v := 3) dd_X12_name_66 (by decide) ?_
                refine ev_icmp_ne 79 dd_X12_name_67 (by decide) ?_ ?_
                · refine ev_aload_n dd_X12_name_79 0 rfl ?_
                  refine ev_aload_n dd_X12_name_80 0 rfl ?_
                  refine ev_lv (lv' := [(1, .int a1)]) [1] rfl ?_
                  refine ev_getR gf_RX12_87 dd_X12_name_81 ht (by decide) ?_
                  refine ev_iload_n dd_X12_name_84 0 rfl ?_
                  refine ev_lv (lv' := []) [] rfl ?_
                  refine ev_callVI (As := [.ref (G.2.1 + (zgr t 47)), .int a1]) cl_RX12_353 (ct_X12_holder l hl G t ht (zgr t 47) ((zg_12_47 ht).1) a1 M3) dd_X12_name_85 ht (by decide) (Nat.le_of_ble_eq_true rfl) (Nat.le_of_ble_eq_true rfl) rfl rfl (fun r3 M4 => ?_)
                  exact hk2 _ _
                · refine ev_aload_n dd_X12_name_70 0 rfl ?_
                  refine ev_lv (lv' := [(1, .int a1)]) [1] rfl ?_
                  refine ev_getR gf_RX12_29 dd_X12_name_71 ht (by decide) ?_
                  refine ev_iload_n dd_X12_name_74 0 rfl ?_
                  refine ev_lv (lv' := []) [] rfl ?_
                  refine ev_iald dd_X12_name_75 ((zg_12_9 ht).1) ((zg_12_9 ht).2) ?_
                  refine ev_goto 88 dd_X12_name_76 (by decide) ?_
                  exact hk2 _ _
              · refine ev_lv (lv' := [(0, .ref (G.2.1 + t)), (1, .int a1)]) [0, 1] rfl ?_
                refine ev_aload_n dd_X12_name_56 0 rfl ?_
                refine ev_lv (lv' := [(1, .int a1)]) [1] rfl ?_
                refine ev_getR gf_RX12_26 dd_X12_name_57 ht (by decide) ?_
                refine ev_iload_n dd_X12_name_60 0 rfl ?_
                refine ev_lv (lv' := []) [] rfl ?_
                refine ev_iald dd_X12_name_61 ((zg_12_8 ht).1) ((zg_12_8 ht).2) ?_
                refine ev_goto 88 dd_X12_name_62 (by decide) ?_
                exact hk2 _ _
            · refine ev_lv (lv' := [(0, .ref (G.2.1 + t)), (1, .int a1)]) [0, 1] rfl ?_
              refine ev_aload_n dd_X12_name_42 0 rfl ?_
              refine ev_lv (lv' := [(1, .int a1)]) [1] rfl ?_
              refine ev_getR gf_RX12_23 dd_X12_name_43 ht (by decide) ?_
              refine ev_iload_n dd_X12_name_46 0 rfl ?_
              refine ev_lv (lv' := []) [] rfl ?_
              refine ev_iald dd_X12_name_47 ((zg_12_7 ht).1) ((zg_12_7 ht).2) ?_
              refine ev_goto 88 dd_X12_name_48 (by decide) ?_
              exact hk2 _ _
          · refine ev_lv (lv' := [(0, .ref (G.2.1 + t)), (1, .int a1)]) [0, 1] rfl ?_
            refine ev_aload_n dd_X12_name_28 0 rfl ?_
            refine ev_lv (lv' := [(1, .int a1)]) [1] rfl ?_
            refine ev_getR gf_RX12_20 dd_X12_name_29 ht (by decide) ?_
            refine ev_iload_n dd_X12_name_32 0 rfl ?_
            refine ev_lv (lv' := []) [] rfl ?_
            refine ev_iald dd_X12_name_33 ((zg_12_6 ht).1) ((zg_12_6 ht).2) ?_
            refine ev_goto 88 dd_X12_name_34 (by decide) ?_
            exact hk2 _ _
      · refine ev_lv (lv' := []) [] rfl ?_
        exact hk1 _
/-! X12_namesOf -/
theorem dd_X12_namesOf_0 : decode Y_X12_namesOf.2.1 0 = .ok (.iload_n 1, 1) := by decide +kernel
theorem dd_X12_namesOf_1 : decode Y_X12_namesOf.2.1 1 = .ok (.istore_n 3, 1) := by decide +kernel
theorem dd_X12_namesOf_2 : decode Y_X12_namesOf.2.1 2 = .ok (.iconst 0, 1) := by decide +kernel
theorem dd_X12_namesOf_3 : decode Y_X12_namesOf.2.1 3 = .ok (.istore 4, 2) := by decide +kernel
theorem dd_X12_namesOf_5 : decode Y_X12_namesOf.2.1 5 = .ok (.iload 4, 2) := by decide +kernel
theorem dd_X12_namesOf_7 : decode Y_X12_namesOf.2.1 7 = .ok (.aload_n 0, 1) := by decide +kernel
theorem dd_X12_namesOf_8 : decode Y_X12_namesOf.2.1 8 = .ok (.getfield 319, 3) := by decide +kernel
theorem dd_X12_namesOf_11 : decode Y_X12_namesOf.2.1 11 = .ok (.if_icmp .ge 22, 3) := by decide +kernel
theorem dd_X12_namesOf_14 : decode Y_X12_namesOf.2.1 14 = .ok (.aload_n 2, 1) := by decide +kernel
theorem dd_X12_namesOf_15 : decode Y_X12_namesOf.2.1 15 = .ok (.iload 4, 2) := by decide +kernel
theorem dd_X12_namesOf_17 : decode Y_X12_namesOf.2.1 17 = .ok (.iload_n 3, 1) := by decide +kernel
theorem dd_X12_namesOf_18 : decode Y_X12_namesOf.2.1 18 = .ok (.bipush 8, 2) := by decide +kernel
theorem dd_X12_namesOf_20 : decode Y_X12_namesOf.2.1 20 = .ok (.irem, 1) := by decide +kernel
theorem dd_X12_namesOf_21 : decode Y_X12_namesOf.2.1 21 = .ok (.iastore, 1) := by decide +kernel
theorem dd_X12_namesOf_22 : decode Y_X12_namesOf.2.1 22 = .ok (.iload_n 3, 1) := by decide +kernel
theorem dd_X12_namesOf_23 : decode Y_X12_namesOf.2.1 23 = .ok (.bipush 8, 2) := by decide +kernel
theorem dd_X12_namesOf_25 : decode Y_X12_namesOf.2.1 25 = .ok (.idiv, 1) := by decide +kernel
theorem dd_X12_namesOf_26 : decode Y_X12_namesOf.2.1 26 = .ok (.istore_n 3, 1) := by decide +kernel
theorem dd_X12_namesOf_27 : decode Y_X12_namesOf.2.1 27 = .ok (.iinc 4 1, 3) := by decide +kernel
theorem dd_X12_namesOf_30 : decode Y_X12_namesOf.2.1 30 = .ok (.goto (-25), 3) := by decide +kernel
theorem dd_X12_namesOf_33 : decode Y_X12_namesOf.2.1 33 = .ok (.return_, 1) := by decide +kernel
def F_X12_namesOf_L5 (x0 : Nat) (x2 : Nat) (K33 : zM → zO) : Nat → Int32 → Int32 → zM → zO
  | 0, _, _, _ => none
  | n + 1, x3, x4, M => zit ((M x0 1) ≤ x4) (K33 M) (zck (!decide (8 = 0)) (zck (zin x4 (zal x2)) (zst (zup M x2 (zix x4) (x3 - x3 / 8 * 8)) (fun M1 => zck (!decide (8 = 0)) (zlt (x3 / 8) (fun v1 => F_X12_namesOf_L5 x0 x2 K33 n v1 (x4 + 1) M1))))))
def F_X12_namesOf (t : Nat) (a1 : Int32) (a2 : Nat) (M : zM) : zO := F_X12_namesOf_L5 t a2 (fun  (M2 : zM) => zV M2) zN a1 0 M
set_option maxHeartbeats 1000000 in
set_option maxRecDepth 20000 in
theorem ct_X12_namesOf_L5 (l : Launch) (hl : l.stackTraces = false) (G : zG) (x0 : Nat) (hx0 : zsh x0 = 12) (x2 : Nat) (hx2 : zsh x2 = 20) (K33 : zM → zO) (hK33 : ∀  (M : zM), zEv l G Y_X12_namesOf 1 0 33 [] [] M (K33 M)) : ∀ (n : Nat) (x3 : Int32) (x4 : Int32) (M : zM), zEv l G Y_X12_namesOf 1 0 5 [(0, .ref (G.2.1 + x0)), (2, .ref (G.2.1 + x2)), (3, .int x3), (4, .int x4)] [] M (F_X12_namesOf_L5 x0 x2 K33 n x3 x4 M) := by
  intro n
  induction n with
  | zero => intro x3 x4 M; exact ev_none
  | succ n ih =>
    intro x3 x4 M
    show zEv l G Y_X12_namesOf 1 0 5 [(0, .ref (G.2.1 + x0)), (2, .ref (G.2.1 + x2)), (3, .int x3), (4, .int x4)] [] M (zit ((M x0 1) ≤ x4) (K33 M) (zck (!decide (8 = 0)) (zck (zin x4 (zal x2)) (zst (zup M x2 (zix x4) (x3 - x3 / 8 * 8)) (fun M1 => zck (!decide (8 = 0)) (zlt (x3 / 8) (fun v1 => F_X12_namesOf_L5 x0 x2 K33 n v1 (x4 + 1) M1)))))))
    refine ev_iload dd_X12_namesOf_5 3 rfl ?_
    refine ev_aload_n dd_X12_namesOf_7 0 rfl ?_
    refine ev_getI gf_RX12_319 dd_X12_namesOf_8 hx0 (by decide) ?_
    refine ev_icmp_ge 33 dd_X12_namesOf_11 (by decide) ?_ ?_
    · refine ev_lv (lv' := []) [] rfl ?_
      exact hK33 _
    · refine ev_aload_n dd_X12_namesOf_14 1 rfl ?_
      refine ev_iload dd_X12_namesOf_15 3 rfl ?_
      refine ev_iload_n dd_X12_namesOf_17 2 rfl ?_
      refine ev_bipush (v := 8) dd_X12_namesOf_18 (by decide) ?_
      refine ev_irem dd_X12_namesOf_20 ?_
      refine ev_iast dd_X12_namesOf_21 hx2 rfl ?_
      refine ev_st (fun M1 => ?_)
      refine ev_iload_n dd_X12_namesOf_22 2 rfl ?_
      refine ev_lv (lv' := [(0, .ref (G.2.1 + x0)), (2, .ref (G.2.1 + x2)), (4, .int x4)]) [0, 1, 3] rfl ?_
      refine ev_bipush (v := 8) dd_X12_namesOf_23 (by decide) ?_
      refine ev_idiv dd_X12_namesOf_25 ?_
      refine ev_topi (fun v1 => ?_)
      refine ev_istore_n (i := 3) (lv' := [(0, .ref (G.2.1 + x0)), (2, .ref (G.2.1 + x2)), (3, .int v1), (4, .int x4)]) [1, 2, 0, 3] dd_X12_namesOf_26 rfl (by decide) rfl ?_
      refine ev_iinc (j := 3) (v := 1) (lv' := [(0, .ref (G.2.1 + x0)), (2, .ref (G.2.1 + x2)), (3, .int v1), (4, .int (x4 + 1))]) [1, 2, 3, 0] dd_X12_namesOf_27 rfl (by decide) (by decide) rfl ?_
      refine ev_goto 5 dd_X12_namesOf_30 (by decide) ?_
      exact ih _ _ _
set_option maxHeartbeats 1000000 in
set_option maxRecDepth 20000 in
theorem ct_X12_namesOf (l : Launch) (hl : l.stackTraces = false) (G : zG) (t : Nat) (ht : zsh t = 12) (a1 : Int32) (a2 : Nat) (ha2 : zsh a2 = 20) (M : zM) : zMt l G Y_X12_namesOf 1 [.ref (G.2.1 + t), .int a1, .ref (G.2.1 + a2)] M (F_X12_namesOf t a1 a2 M) := by
  refine zMt_of (by decide +kernel) (Nat.le_of_ble_eq_true rfl) ?_
  show zEv l G Y_X12_namesOf 1 0 0 [(0, .ref (G.2.1 + t)), (1, .int a1), (2, .ref (G.2.1 + a2))] [] M (F_X12_namesOf_L5 t a2 (fun  (M2 : zM) => zV M2) zN a1 0 M)
  refine ev_iload_n dd_X12_namesOf_0 1 rfl ?_
  refine ev_lv (lv' := [(0, .ref (G.2.1 + t)), (2, .ref (G.2.1 + a2))]) [0, 2] rfl ?_
  refine ev_istore_n (i := 3) (lv' := [(0, .ref (G.2.1 + t)), (2, .ref (G.2.1 + a2)), (3, .int a1)]) [1, 2, 0] dd_X12_namesOf_1 rfl (by decide) rfl ?_
  refine ev_iconst (v := 0) dd_X12_namesOf_2 (by decide) ?_
  refine ev_istore (i := 4) (lv' := [(0, .ref (G.2.1 + t)), (2, .ref (G.2.1 + a2)), (3, .int a1), (4, .int 0)]) [1, 2, 3, 0] dd_X12_namesOf_3 (by decide) rfl ?_
  refine ct_X12_namesOf_L5 l hl G t ht a2 ha2 _ (fun M2 => ?_) zN _ _ _
  exact ev_vret dd_X12_namesOf_33 rfl (Nat.le_of_ble_eq_true rfl) rfl
/-! X12_turns0 -/
theorem dd_X12_turns0_0 : decode Y_X12_turns0.2.1 0 = .ok (.aload_n 0, 1) := by decide +kernel
theorem dd_X12_turns0_1 : decode Y_X12_turns0.2.1 1 = .ok (.getfield 123, 3) := by decide +kernel
theorem dd_X12_turns0_4 : decode Y_X12_turns0.2.1 4 = .ok (.iload_n 1, 1) := by decide +kernel
theorem dd_X12_turns0_5 : decode Y_X12_turns0.2.1 5 = .ok (.iaload, 1) := by decide +kernel
theorem dd_X12_turns0_6 : decode Y_X12_turns0.2.1 6 = .ok (.istore_n 3, 1) := by decide +kernel
theorem dd_X12_turns0_7 : decode Y_X12_turns0.2.1 7 = .ok (.aload_n 0, 1) := by decide +kernel
theorem dd_X12_turns0_8 : decode Y_X12_turns0.2.1 8 = .ok (.getfield 123, 3) := by decide +kernel
theorem dd_X12_turns0_11 : decode Y_X12_turns0.2.1 11 = .ok (.iload_n 1, 1) := by decide +kernel
theorem dd_X12_turns0_12 : decode Y_X12_turns0.2.1 12 = .ok (.aload_n 0, 1) := by decide +kernel
theorem dd_X12_turns0_13 : decode Y_X12_turns0.2.1 13 = .ok (.getfield 123, 3) := by decide +kernel
theorem dd_X12_turns0_16 : decode Y_X12_turns0.2.1 16 = .ok (.iload_n 2, 1) := by decide +kernel
theorem dd_X12_turns0_17 : decode Y_X12_turns0.2.1 17 = .ok (.iaload, 1) := by decide +kernel
theorem dd_X12_turns0_18 : decode Y_X12_turns0.2.1 18 = .ok (.iastore, 1) := by decide +kernel
theorem dd_X12_turns0_19 : decode Y_X12_turns0.2.1 19 = .ok (.aload_n 0, 1) := by decide +kernel
theorem dd_X12_turns0_20 : decode Y_X12_turns0.2.1 20 = .ok (.getfield 123, 3) := by decide +kernel
theorem dd_X12_turns0_23 : decode Y_X12_turns0.2.1 23 = .ok (.iload_n 2, 1) := by decide +kernel
theorem dd_X12_turns0_24 : decode Y_X12_turns0.2.1 24 = .ok (.iload_n 3, 1) := by decide +kernel
theorem dd_X12_turns0_25 : decode Y_X12_turns0.2.1 25 = .ok (.iastore, 1) := by decide +kernel
theorem dd_X12_turns0_26 : decode Y_X12_turns0.2.1 26 = .ok (.return_, 1) := by decide +kernel
def F_X12_turns0 (t : Nat) (a1 : Int32) (a2 : Int32) (M : zM) : zO := zck (zin a1 5) (zlt (M (zgr t 61) (zix a1)) (fun v1 => zck (zin a2 5) (zck (zin a1 5) (zst (zup M (zgr t 61) (zix a1) (M (zgr t 61) (zix a2))) (fun M1 => zck (zin a2 5) (zst (zup M1 (zgr t 61) (zix a2) v1) (fun M2 => zV M2)))))))
set_option maxHeartbeats 1000000 in
set_option maxRecDepth 20000 in
theorem ct_X12_turns0 (l : Launch) (hl : l.stackTraces = false) (G : zG) (t : Nat) (ht : zsh t = 12) (a1 : Int32) (a2 : Int32) (M : zM) : zMt l G Y_X12_turns0 1 [.ref (G.2.1 + t), .int a1, .int a2] M (F_X12_turns0 t a1 a2 M) := by
  refine zMt_of (by decide +kernel) (Nat.le_of_ble_eq_true rfl) ?_
  show zEv l G Y_X12_turns0 1 0 0 [(0, .ref (G.2.1 + t)), (1, .int a1), (2, .int a2)] [] M (zck (zin a1 5) (zlt (M (zgr t 61) (zix a1)) (fun v1 => zck (zin a2 5) (zck (zin a1 5) (zst (zup M (zgr t 61) (zix a1) (M (zgr t 61) (zix a2))) (fun M1 => zck (zin a2 5) (zst (zup M1 (zgr t 61) (zix a2) v1) (fun M2 => zV M2))))))))
  refine ev_aload_n dd_X12_turns0_0 0 rfl ?_
  refine ev_getR gf_RX12_123 dd_X12_turns0_1 ht (by decide) ?_
  refine ev_iload_n dd_X12_turns0_4 1 rfl ?_
  refine ev_iald dd_X12_turns0_5 ((zg_12_61 ht).1) ((zg_12_61 ht).2) ?_
  refine ev_topi (fun v1 => ?_)
  refine ev_istore_n (i := 3) (lv' := [(0, .ref (G.2.1 + t)), (1, .int a1), (2, .int a2), (3, .int v1)]) [1, 2, 3, 0] dd_X12_turns0_6 rfl (by decide) rfl ?_
  refine ev_aload_n dd_X12_turns0_7 0 rfl ?_
  refine ev_getR gf_RX12_123 dd_X12_turns0_8 ht (by decide) ?_
  refine ev_iload_n dd_X12_turns0_11 1 rfl ?_
  refine ev_lv (lv' := [(0, .ref (G.2.1 + t)), (2, .int a2), (3, .int v1)]) [0, 2, 3] rfl ?_
  refine ev_aload_n dd_X12_turns0_12 0 rfl ?_
  refine ev_getR gf_RX12_123 dd_X12_turns0_13 ht (by decide) ?_
  refine ev_iload_n dd_X12_turns0_16 1 rfl ?_
  refine ev_iald dd_X12_turns0_17 ((zg_12_61 ht).1) ((zg_12_61 ht).2) ?_
  refine ev_iast dd_X12_turns0_18 ((zg_12_61 ht).1) ((zg_12_61 ht).2) ?_
  refine ev_st (fun M1 => ?_)
  refine ev_aload_n dd_X12_turns0_19 0 rfl ?_
  refine ev_lv (lv' := [(2, .int a2), (3, .int v1)]) [1, 2] rfl ?_
  refine ev_getR gf_RX12_123 dd_X12_turns0_20 ht (by decide) ?_
  refine ev_iload_n dd_X12_turns0_23 0 rfl ?_
  refine ev_lv (lv' := [(3, .int v1)]) [1] rfl ?_
  refine ev_iload_n dd_X12_turns0_24 0 rfl ?_
  refine ev_lv (lv' := []) [] rfl ?_
  refine ev_iast dd_X12_turns0_25 ((zg_12_61 ht).1) ((zg_12_61 ht).2) ?_
  refine ev_st (fun M2 => ?_)
  exact ev_vret dd_X12_turns0_26 rfl (Nat.le_of_ble_eq_true rfl) rfl
/-! X12_nextOrder -/
theorem dd_X12_nextOrder_0 : decode Y_X12_nextOrder.2.1 0 = .ok (.aload_n 0, 1) := by decide +kernel
theorem dd_X12_nextOrder_1 : decode Y_X12_nextOrder.2.1 1 = .ok (.getfield 434, 3) := by decide +kernel
theorem dd_X12_nextOrder_4 : decode Y_X12_nextOrder.2.1 4 = .ok (.iconst 2, 1) := by decide +kernel
theorem dd_X12_nextOrder_5 : decode Y_X12_nextOrder.2.1 5 = .ok (.isub, 1) := by decide +kernel
theorem dd_X12_nextOrder_6 : decode Y_X12_nextOrder.2.1 6 = .ok (.istore_n 1, 1) := by decide +kernel
theorem dd_X12_nextOrder_7 : decode Y_X12_nextOrder.2.1 7 = .ok (.iload_n 1, 1) := by decide +kernel
theorem dd_X12_nextOrder_8 : decode Y_X12_nextOrder.2.1 8 = .ok (.ifCond .lt 26, 3) := by decide +kernel
theorem dd_X12_nextOrder_11 : decode Y_X12_nextOrder.2.1 11 = .ok (.aload_n 0, 1) := by decide +kernel
theorem dd_X12_nextOrder_12 : decode Y_X12_nextOrder.2.1 12 = .ok (.getfield 123, 3) := by decide +kernel
theorem dd_X12_nextOrder_15 : decode Y_X12_nextOrder.2.1 15 = .ok (.iload_n 1, 1) := by decide +kernel
theorem dd_X12_nextOrder_16 : decode Y_X12_nextOrder.2.1 16 = .ok (.iaload, 1) := by decide +kernel
theorem dd_X12_nextOrder_17 : decode Y_X12_nextOrder.2.1 17 = .ok (.aload_n 0, 1) := by decide +kernel
theorem dd_X12_nextOrder_18 : decode Y_X12_nextOrder.2.1 18 = .ok (.getfield 123, 3) := by decide +kernel
theorem dd_X12_nextOrder_21 : decode Y_X12_nextOrder.2.1 21 = .ok (.iload_n 1, 1) := by decide +kernel
theorem dd_X12_nextOrder_22 : decode Y_X12_nextOrder.2.1 22 = .ok (.iconst 1, 1) := by decide +kernel
theorem dd_X12_nextOrder_23 : decode Y_X12_nextOrder.2.1 23 = .ok (.iadd, 1) := by decide +kernel
theorem dd_X12_nextOrder_24 : decode Y_X12_nextOrder.2.1 24 = .ok (.iaload, 1) := by decide +kernel
theorem dd_X12_nextOrder_25 : decode Y_X12_nextOrder.2.1 25 = .ok (.if_icmp .le 9, 3) := by decide +kernel
theorem dd_X12_nextOrder_28 : decode Y_X12_nextOrder.2.1 28 = .ok (.iinc 1 (-1), 3) := by decide +kernel
theorem dd_X12_nextOrder_31 : decode Y_X12_nextOrder.2.1 31 = .ok (.goto (-24), 3) := by decide +kernel
theorem dd_X12_nextOrder_34 : decode Y_X12_nextOrder.2.1 34 = .ok (.iload_n 1, 1) := by decide +kernel
theorem dd_X12_nextOrder_35 : decode Y_X12_nextOrder.2.1 35 = .ok (.ifCond .ge 5, 3) := by decide +kernel
theorem dd_X12_nextOrder_38 : decode Y_X12_nextOrder.2.1 38 = .ok (.iconst 0, 1) := by decide +kernel
theorem dd_X12_nextOrder_39 : decode Y_X12_nextOrder.2.1 39 = .ok (.ireturn, 1) := by decide +kernel
theorem dd_X12_nextOrder_40 : decode Y_X12_nextOrder.2.1 40 = .ok (.aload_n 0, 1) := by decide +kernel
theorem dd_X12_nextOrder_41 : decode Y_X12_nextOrder.2.1 41 = .ok (.getfield 434, 3) := by decide +kernel
theorem dd_X12_nextOrder_44 : decode Y_X12_nextOrder.2.1 44 = .ok (.iconst 1, 1) := by decide +kernel
theorem dd_X12_nextOrder_45 : decode Y_X12_nextOrder.2.1 45 = .ok (.isub, 1) := by decide +kernel
theorem dd_X12_nextOrder_46 : decode Y_X12_nextOrder.2.1 46 = .ok (.istore_n 2, 1) := by decide +kernel
theorem dd_X12_nextOrder_47 : decode Y_X12_nextOrder.2.1 47 = .ok (.aload_n 0, 1) := by decide +kernel
theorem dd_X12_nextOrder_48 : decode Y_X12_nextOrder.2.1 48 = .ok (.getfield 123, 3) := by decide +kernel
theorem dd_X12_nextOrder_51 : decode Y_X12_nextOrder.2.1 51 = .ok (.iload_n 2, 1) := by decide +kernel
theorem dd_X12_nextOrder_52 : decode Y_X12_nextOrder.2.1 52 = .ok (.iaload, 1) := by decide +kernel
theorem dd_X12_nextOrder_53 : decode Y_X12_nextOrder.2.1 53 = .ok (.aload_n 0, 1) := by decide +kernel
theorem dd_X12_nextOrder_54 : decode Y_X12_nextOrder.2.1 54 = .ok (.getfield 123, 3) := by decide +kernel
theorem dd_X12_nextOrder_57 : decode Y_X12_nextOrder.2.1 57 = .ok (.iload_n 1, 1) := by decide +kernel
theorem dd_X12_nextOrder_58 : decode Y_X12_nextOrder.2.1 58 = .ok (.iaload, 1) := by decide +kernel
theorem dd_X12_nextOrder_59 : decode Y_X12_nextOrder.2.1 59 = .ok (.if_icmp .ge 9, 3) := by decide +kernel
theorem dd_X12_nextOrder_62 : decode Y_X12_nextOrder.2.1 62 = .ok (.iinc 2 (-1), 3) := by decide +kernel
theorem dd_X12_nextOrder_65 : decode Y_X12_nextOrder.2.1 65 = .ok (.goto (-18), 3) := by decide +kernel
theorem dd_X12_nextOrder_68 : decode Y_X12_nextOrder.2.1 68 = .ok (.aload_n 0, 1) := by decide +kernel
theorem dd_X12_nextOrder_69 : decode Y_X12_nextOrder.2.1 69 = .ok (.iload_n 1, 1) := by decide +kernel
theorem dd_X12_nextOrder_70 : decode Y_X12_nextOrder.2.1 70 = .ok (.iload_n 2, 1) := by decide +kernel
theorem dd_X12_nextOrder_71 : decode Y_X12_nextOrder.2.1 71 = .ok (.invokevirtual 437, 3) := by decide +kernel
theorem dd_X12_nextOrder_74 : decode Y_X12_nextOrder.2.1 74 = .ok (.iload_n 1, 1) := by decide +kernel
theorem dd_X12_nextOrder_75 : decode Y_X12_nextOrder.2.1 75 = .ok (.iconst 1, 1) := by decide +kernel
theorem dd_X12_nextOrder_76 : decode Y_X12_nextOrder.2.1 76 = .ok (.iadd, 1) := by decide +kernel
theorem dd_X12_nextOrder_77 : decode Y_X12_nextOrder.2.1 77 = .ok (.istore_n 3, 1) := by decide +kernel
theorem dd_X12_nextOrder_78 : decode Y_X12_nextOrder.2.1 78 = .ok (.aload_n 0, 1) := by decide +kernel
theorem dd_X12_nextOrder_79 : decode Y_X12_nextOrder.2.1 79 = .ok (.getfield 434, 3) := by decide +kernel
theorem dd_X12_nextOrder_82 : decode Y_X12_nextOrder.2.1 82 = .ok (.iconst 1, 1) := by decide +kernel
theorem dd_X12_nextOrder_83 : decode Y_X12_nextOrder.2.1 83 = .ok (.isub, 1) := by decide +kernel
theorem dd_X12_nextOrder_84 : decode Y_X12_nextOrder.2.1 84 = .ok (.istore 4, 2) := by decide +kernel
theorem dd_X12_nextOrder_86 : decode Y_X12_nextOrder.2.1 86 = .ok (.iload_n 3, 1) := by decide +kernel
theorem dd_X12_nextOrder_87 : decode Y_X12_nextOrder.2.1 87 = .ok (.iload 4, 2) := by decide +kernel
theorem dd_X12_nextOrder_89 : decode Y_X12_nextOrder.2.1 89 = .ok (.if_icmp .ge 19, 3) := by decide +kernel
theorem dd_X12_nextOrder_92 : decode Y_X12_nextOrder.2.1 92 = .ok (.aload_n 0, 1) := by decide +kernel
theorem dd_X12_nextOrder_93 : decode Y_X12_nextOrder.2.1 93 = .ok (.iload_n 3, 1) := by decide +kernel
theorem dd_X12_nextOrder_94 : decode Y_X12_nextOrder.2.1 94 = .ok (.iload 4, 2) := by decide +kernel
theorem dd_X12_nextOrder_96 : decode Y_X12_nextOrder.2.1 96 = .ok (.invokevirtual 437, 3) := by decide +kernel
theorem dd_X12_nextOrder_99 : decode Y_X12_nextOrder.2.1 99 = .ok (.iinc 3 1, 3) := by decide +kernel
theorem dd_X12_nextOrder_102 : decode Y_X12_nextOrder.2.1 102 = .ok (.iinc 4 (-1), 3) := by decide +kernel
theorem dd_X12_nextOrder_105 : decode Y_X12_nextOrder.2.1 105 = .ok (.goto (-19), 3) := by decide +kernel
theorem dd_X12_nextOrder_108 : decode Y_X12_nextOrder.2.1 108 = .ok (.iconst 1, 1) := by decide +kernel
theorem dd_X12_nextOrder_109 : decode Y_X12_nextOrder.2.1 109 = .ok (.ireturn, 1) := by decide +kernel
def F_X12_nextOrder_L7 (x0 : Nat) (K34 : Int32 → zM → zO) : Nat → Int32 → zM → zO
  | 0, _, _ => none
  | n + 1, x1, M => zit (x1 < 0) (K34 x1 M) (zck (zin x1 5) (zck (zin (x1 + 1) 5) (zit ((M (zgr x0 61) (zix x1)) ≤ (M (zgr x0 61) (zix (x1 + 1)))) (K34 x1 M) (F_X12_nextOrder_L7 x0 K34 n (x1 + (-1)) M))))
def F_X12_nextOrder_L47 (x0 : Nat) (x1 : Int32) (K68 : Int32 → zM → zO) : Nat → Int32 → zM → zO
  | 0, _, _ => none
  | n + 1, x2, M => zck (zin x2 5) (zck (zin x1 5) (zit ((M (zgr x0 61) (zix x1)) ≤ (M (zgr x0 61) (zix x2))) (K68 x2 M) (F_X12_nextOrder_L47 x0 x1 K68 n (x2 + (-1)) M)))
def F_X12_nextOrder_L86 (x0 : Nat) (K108 : zM → zO) : Nat → Int32 → Int32 → zM → zO
  | 0, _, _, _ => none
  | n + 1, x3, x4, M => zit (x4 ≤ x3) (K108 M) (zbV (F_X12_turns0 x0 x3 x4 M) (fun M4 => F_X12_nextOrder_L86 x0 K108 n (x3 + 1) (x4 + (-1)) M4))
def F_X12_nextOrder (t : Nat) (M : zM) : zO := zlt ((M t 63) - 2) (fun v1 => F_X12_nextOrder_L7 t (fun (y1 : Int32) (M1 : zM) => zit (0 ≤ y1) (zlt ((M1 t 63) - 1) (fun v2 => F_X12_nextOrder_L47 t y1 (fun (y2 : Int32) (M2 : zM) => zbV (F_X12_turns0 t y1 y2 M2) (fun M3 => zlt (y1 + 1) (fun v3 => zlt ((M3 t 63) - 1) (fun v4 => F_X12_nextOrder_L86 t (fun  (M5 : zM) => zck (zbo 1) (zI 1 M5)) zN v3 v4 M3)))) zN v2 M1)) (zck (zbo 0) (zI 0 M1))) zN v1 M)
set_option maxHeartbeats 1000000 in
set_option maxRecDepth 20000 in
theorem ct_X12_nextOrder_L7 (l : Launch) (hl : l.stackTraces = false) (G : zG) (x0 : Nat) (hx0 : zsh x0 = 12) (K34 : Int32 → zM → zO) (hK34 : ∀ (x1 : Int32) (M : zM), zEv l G Y_X12_nextOrder 2 0 34 [(0, .ref (G.2.1 + x0)), (1, .int x1)] [] M (K34 x1 M)) : ∀ (n : Nat) (x1 : Int32) (M : zM), zEv l G Y_X12_nextOrder 2 0 7 [(0, .ref (G.2.1 + x0)), (1, .int x1)] [] M (F_X12_nextOrder_L7 x0 K34 n x1 M) := by
  intro n
  induction n with
  | zero => intro x1 M; exact ev_none
  | succ n ih =>
    intro x1 M
    show zEv l G Y_X12_nextOrder 2 0 7 [(0, .ref (G.2.1 + x0)), (1, .int x1)] [] M (zit (x1 < 0) (K34 x1 M) (zck (zin x1 5) (zck (zin (x1 + 1) 5) (zit ((M (zgr x0 61) (zix x1)) ≤ (M (zgr x0 61) (zix (x1 + 1)))) (K34 x1 M) (F_X12_nextOrder_L7 x0 K34 n (x1 + (-1)) M)))))
    refine ev_iload_n dd_X12_nextOrder_7 1 rfl ?_
    refine ev_if_lt 34 dd_X12_nextOrder_8 (by decide) ?_ ?_
    · exact hK34 _ _
    · refine ev_aload_n dd_X12_nextOrder_11 0 rfl ?_
      refine ev_getR gf_RX12_123 dd_X12_nextOrder_12 hx0 (by decide) ?_
      refine ev_iload_n dd_X12_nextOrder_15 1 rfl ?_
      refine ev_iald dd_X12_nextOrder_16 ((zg_12_61 hx0).1) ((zg_12_61 hx0).2) ?_
      refine ev_aload_n dd_X12_nextOrder_17 0 rfl ?_
      refine ev_getR gf_RX12_123 dd_X12_nextOrder_18 hx0 (by decide) ?_
      refine ev_iload_n dd_X12_nextOrder_21 1 rfl ?_
      refine ev_iconst (v := 1) dd_X12_nextOrder_22 (by decide) ?_
      refine ev_iadd dd_X12_nextOrder_23 ?_
      refine ev_iald dd_X12_nextOrder_24 ((zg_12_61 hx0).1) ((zg_12_61 hx0).2) ?_
      refine ev_icmp_le 34 dd_X12_nextOrder_25 (by decide) ?_ ?_
      · exact hK34 _ _
      · refine ev_iinc (j := 1) (v := (-1)) (lv' := [(0, .ref (G.2.1 + x0)), (1, .int (x1 + (-1)))]) [1, 0] dd_X12_nextOrder_28 rfl (by decide) (by decide) rfl ?_
        refine ev_goto 7 dd_X12_nextOrder_31 (by decide) ?_
        exact ih _ _
set_option maxHeartbeats 1000000 in
set_option maxRecDepth 20000 in
theorem ct_X12_nextOrder_L47 (l : Launch) (hl : l.stackTraces = false) (G : zG) (x0 : Nat) (hx0 : zsh x0 = 12) (x1 : Int32) (K68 : Int32 → zM → zO) (hK68 : ∀ (x2 : Int32) (M : zM), zEv l G Y_X12_nextOrder 2 0 68 [(0, .ref (G.2.1 + x0)), (1, .int x1), (2, .int x2)] [] M (K68 x2 M)) : ∀ (n : Nat) (x2 : Int32) (M : zM), zEv l G Y_X12_nextOrder 2 0 47 [(0, .ref (G.2.1 + x0)), (1, .int x1), (2, .int x2)] [] M (F_X12_nextOrder_L47 x0 x1 K68 n x2 M) := by
  intro n
  induction n with
  | zero => intro x2 M; exact ev_none
  | succ n ih =>
    intro x2 M
    show zEv l G Y_X12_nextOrder 2 0 47 [(0, .ref (G.2.1 + x0)), (1, .int x1), (2, .int x2)] [] M (zck (zin x2 5) (zck (zin x1 5) (zit ((M (zgr x0 61) (zix x1)) ≤ (M (zgr x0 61) (zix x2))) (K68 x2 M) (F_X12_nextOrder_L47 x0 x1 K68 n (x2 + (-1)) M))))
    refine ev_aload_n dd_X12_nextOrder_47 0 rfl ?_
    refine ev_getR gf_RX12_123 dd_X12_nextOrder_48 hx0 (by decide) ?_
    refine ev_iload_n dd_X12_nextOrder_51 2 rfl ?_
    refine ev_iald dd_X12_nextOrder_52 ((zg_12_61 hx0).1) ((zg_12_61 hx0).2) ?_
    refine ev_aload_n dd_X12_nextOrder_53 0 rfl ?_
    refine ev_getR gf_RX12_123 dd_X12_nextOrder_54 hx0 (by decide) ?_
    refine ev_iload_n dd_X12_nextOrder_57 1 rfl ?_
    refine ev_iald dd_X12_nextOrder_58 ((zg_12_61 hx0).1) ((zg_12_61 hx0).2) ?_
    refine ev_icmp_ge 68 dd_X12_nextOrder_59 (by decide) ?_ ?_
    · exact hK68 _ _
    · refine ev_iinc (j := 2) (v := (-1)) (lv' := [(0, .ref (G.2.1 + x0)), (1, .int x1), (2, .int (x2 + (-1)))]) [1, 2, 0] dd_X12_nextOrder_62 rfl (by decide) (by decide) rfl ?_
      refine ev_goto 47 dd_X12_nextOrder_65 (by decide) ?_
      exact ih _ _
set_option maxHeartbeats 1000000 in
set_option maxRecDepth 20000 in
theorem ct_X12_nextOrder_L86 (l : Launch) (hl : l.stackTraces = false) (G : zG) (x0 : Nat) (hx0 : zsh x0 = 12) (K108 : zM → zO) (hK108 : ∀  (M : zM), zEv l G Y_X12_nextOrder 2 0 108 [] [] M (K108 M)) : ∀ (n : Nat) (x3 : Int32) (x4 : Int32) (M : zM), zEv l G Y_X12_nextOrder 2 0 86 [(0, .ref (G.2.1 + x0)), (3, .int x3), (4, .int x4)] [] M (F_X12_nextOrder_L86 x0 K108 n x3 x4 M) := by
  intro n
  induction n with
  | zero => intro x3 x4 M; exact ev_none
  | succ n ih =>
    intro x3 x4 M
    show zEv l G Y_X12_nextOrder 2 0 86 [(0, .ref (G.2.1 + x0)), (3, .int x3), (4, .int x4)] [] M (zit (x4 ≤ x3) (K108 M) (zbV (F_X12_turns0 x0 x3 x4 M) (fun M4 => F_X12_nextOrder_L86 x0 K108 n (x3 + 1) (x4 + (-1)) M4)))
    refine ev_iload_n dd_X12_nextOrder_86 1 rfl ?_
    refine ev_iload dd_X12_nextOrder_87 2 rfl ?_
    refine ev_icmp_ge 108 dd_X12_nextOrder_89 (by decide) ?_ ?_
    · refine ev_lv (lv' := []) [] rfl ?_
      exact hK108 _
    · refine ev_aload_n dd_X12_nextOrder_92 0 rfl ?_
      refine ev_iload_n dd_X12_nextOrder_93 1 rfl ?_
      refine ev_iload dd_X12_nextOrder_94 2 rfl ?_
      refine ev_callVV (As := [.int x3, .int x4]) cl_RX12_437 (ct_X12_turns0 l hl G x0 hx0 x3 x4 M) dd_X12_nextOrder_96 hx0 (by decide) (Nat.le_of_ble_eq_true rfl) (Nat.le_of_ble_eq_true rfl) rfl rfl (fun M4 => ?_)
      refine ev_iinc (j := 1) (v := 1) (lv' := [(0, .ref (G.2.1 + x0)), (3, .int (x3 + 1)), (4, .int x4)]) [1, 0, 2] dd_X12_nextOrder_99 rfl (by decide) (by decide) rfl ?_
      refine ev_iinc (j := 2) (v := (-1)) (lv' := [(0, .ref (G.2.1 + x0)), (3, .int (x3 + 1)), (4, .int (x4 + (-1)))]) [1, 2, 0] dd_X12_nextOrder_102 rfl (by decide) (by decide) rfl ?_
      refine ev_goto 86 dd_X12_nextOrder_105 (by decide) ?_
      exact ih _ _ _
set_option maxHeartbeats 1000000 in
set_option maxRecDepth 20000 in
theorem ct_X12_nextOrder (l : Launch) (hl : l.stackTraces = false) (G : zG) (t : Nat) (ht : zsh t = 12) (M : zM) : zMt l G Y_X12_nextOrder 2 [.ref (G.2.1 + t)] M (F_X12_nextOrder t M) := by
  refine zMt_of (by decide +kernel) (Nat.le_of_ble_eq_true rfl) ?_
  show zEv l G Y_X12_nextOrder 2 0 0 [(0, .ref (G.2.1 + t))] [] M (zlt ((M t 63) - 2) (fun v1 => F_X12_nextOrder_L7 t (fun (y1 : Int32) (M1 : zM) => zit (0 ≤ y1) (zlt ((M1 t 63) - 1) (fun v2 => F_X12_nextOrder_L47 t y1 (fun (y2 : Int32) (M2 : zM) => zbV (F_X12_turns0 t y1 y2 M2) (fun M3 => zlt (y1 + 1) (fun v3 => zlt ((M3 t 63) - 1) (fun v4 => F_X12_nextOrder_L86 t (fun  (M5 : zM) => zck (zbo 1) (zI 1 M5)) zN v3 v4 M3)))) zN v2 M1)) (zck (zbo 0) (zI 0 M1))) zN v1 M))
  refine ev_aload_n dd_X12_nextOrder_0 0 rfl ?_
  refine ev_getI gf_RX12_434 dd_X12_nextOrder_1 ht (by decide) ?_
  refine ev_iconst (v := 2) dd_X12_nextOrder_4 (by decide) ?_
  refine ev_isub dd_X12_nextOrder_5 ?_
  refine ev_topi (fun v1 => ?_)
  refine ev_istore_n (i := 1) (lv' := [(0, .ref (G.2.1 + t)), (1, .int v1)]) [1, 0] dd_X12_nextOrder_6 rfl (by decide) rfl ?_
  refine ct_X12_nextOrder_L7 l hl G t ht _ (fun y1 M1 => ?_) zN _ _
  refine ev_iload_n dd_X12_nextOrder_34 1 rfl ?_
  refine ev_if_ge 40 dd_X12_nextOrder_35 (by decide) ?_ ?_
  · refine ev_aload_n dd_X12_nextOrder_40 0 rfl ?_
    refine ev_getI gf_RX12_434 dd_X12_nextOrder_41 ht (by decide) ?_
    refine ev_iconst (v := 1) dd_X12_nextOrder_44 (by decide) ?_
    refine ev_isub dd_X12_nextOrder_45 ?_
    refine ev_topi (fun v2 => ?_)
    refine ev_istore_n (i := 2) (lv' := [(0, .ref (G.2.1 + t)), (1, .int y1), (2, .int v2)]) [1, 2, 0] dd_X12_nextOrder_46 rfl (by decide) rfl ?_
    refine ct_X12_nextOrder_L47 l hl G t ht y1 _ (fun y2 M2 => ?_) zN _ _
    refine ev_aload_n dd_X12_nextOrder_68 0 rfl ?_
    refine ev_iload_n dd_X12_nextOrder_69 1 rfl ?_
    refine ev_iload_n dd_X12_nextOrder_70 2 rfl ?_
    refine ev_lv (lv' := [(0, .ref (G.2.1 + t)), (1, .int y1)]) [0, 1] rfl ?_
    refine ev_callVV (As := [.int y1, .int y2]) cl_RX12_437 (ct_X12_turns0 l hl G t ht y1 y2 M2) dd_X12_nextOrder_71 ht (by decide) (Nat.le_of_ble_eq_true rfl) (Nat.le_of_ble_eq_true rfl) rfl rfl (fun M3 => ?_)
    refine ev_iload_n dd_X12_nextOrder_74 1 rfl ?_
    refine ev_lv (lv' := [(0, .ref (G.2.1 + t))]) [0] rfl ?_
    refine ev_iconst (v := 1) dd_X12_nextOrder_75 (by decide) ?_
    refine ev_iadd dd_X12_nextOrder_76 ?_
    refine ev_topi (fun v3 => ?_)
    refine ev_istore_n (i := 3) (lv' := [(0, .ref (G.2.1 + t)), (3, .int v3)]) [1, 0] dd_X12_nextOrder_77 rfl (by decide) rfl ?_
    refine ev_aload_n dd_X12_nextOrder_78 0 rfl ?_
    refine ev_getI gf_RX12_434 dd_X12_nextOrder_79 ht (by decide) ?_
    refine ev_iconst (v := 1) dd_X12_nextOrder_82 (by decide) ?_
    refine ev_isub dd_X12_nextOrder_83 ?_
    refine ev_topi (fun v4 => ?_)
    refine ev_istore (i := 4) (lv' := [(0, .ref (G.2.1 + t)), (3, .int v3), (4, .int v4)]) [1, 2, 0] dd_X12_nextOrder_84 (by decide) rfl ?_
    refine ct_X12_nextOrder_L86 l hl G t ht _ (fun M5 => ?_) zN _ _ _
    refine ev_iconst (v := 1) dd_X12_nextOrder_108 (by decide) ?_
    exact ev_zret dd_X12_nextOrder_109 rfl (Nat.le_of_ble_eq_true rfl) rfl
  · refine ev_lv (lv' := []) [] rfl ?_
    refine ev_iconst (v := 0) dd_X12_nextOrder_38 (by decide) ?_
    exact ev_zret dd_X12_nextOrder_39 rfl (Nat.le_of_ble_eq_true rfl) rfl
/-! X12_owedTo -/
theorem dd_X12_owedTo_0 : decode Y_X12_owedTo.2.1 0 = .ok (.iconst 0, 1) := by decide +kernel
theorem dd_X12_owedTo_1 : decode Y_X12_owedTo.2.1 1 = .ok (.istore_n 2, 1) := by decide +kernel
theorem dd_X12_owedTo_2 : decode Y_X12_owedTo.2.1 2 = .ok (.iconst 0, 1) := by decide +kernel
theorem dd_X12_owedTo_3 : decode Y_X12_owedTo.2.1 3 = .ok (.istore_n 3, 1) := by decide +kernel
theorem dd_X12_owedTo_4 : decode Y_X12_owedTo.2.1 4 = .ok (.iload_n 3, 1) := by decide +kernel
theorem dd_X12_owedTo_5 : decode Y_X12_owedTo.2.1 5 = .ok (.aload_n 0, 1) := by decide +kernel
theorem dd_X12_owedTo_6 : decode Y_X12_owedTo.2.1 6 = .ok (.getfield 319, 3) := by decide +kernel
theorem dd_X12_owedTo_9 : decode Y_X12_owedTo.2.1 9 = .ok (.if_icmp .ge 52, 3) := by decide +kernel
theorem dd_X12_owedTo_12 : decode Y_X12_owedTo.2.1 12 = .ok (.iload_n 2, 1) := by decide +kernel
theorem dd_X12_owedTo_13 : decode Y_X12_owedTo.2.1 13 = .ok (.iload_n 3, 1) := by decide +kernel
theorem dd_X12_owedTo_14 : decode Y_X12_owedTo.2.1 14 = .ok (.iload_n 1, 1) := by decide +kernel
theorem dd_X12_owedTo_15 : decode Y_X12_owedTo.2.1 15 = .ok (.if_icmp .eq 37, 3) := by decide +kernel
theorem dd_X12_owedTo_18 : decode Y_X12_owedTo.2.1 18 = .ok (.aload_n 0, 1) := by decide +kernel
theorem dd_X12_owedTo_19 : decode Y_X12_owedTo.2.1 19 = .ok (.getfield 87, 3) := by decide +kernel
theorem dd_X12_owedTo_22 : decode Y_X12_owedTo.2.1 22 = .ok (.bipush 8, 2) := by decide +kernel
theorem dd_X12_owedTo_24 : decode Y_X12_owedTo.2.1 24 = .ok (.bipush 8, 2) := by decide +kernel
theorem dd_X12_owedTo_26 : decode Y_X12_owedTo.2.1 26 = .ok (.iload_n 3, 1) := by decide +kernel
theorem dd_X12_owedTo_27 : decode Y_X12_owedTo.2.1 27 = .ok (.imul, 1) := by decide +kernel
theorem dd_X12_owedTo_28 : decode Y_X12_owedTo.2.1 28 = .ok (.iadd, 1) := by decide +kernel
theorem dd_X12_owedTo_29 : decode Y_X12_owedTo.2.1 29 = .ok (.iload_n 1, 1) := by decide +kernel
theorem dd_X12_owedTo_30 : decode Y_X12_owedTo.2.1 30 = .ok (.iadd, 1) := by decide +kernel
theorem dd_X12_owedTo_31 : decode Y_X12_owedTo.2.1 31 = .ok (.iaload, 1) := by decide +kernel
theorem dd_X12_owedTo_32 : decode Y_X12_owedTo.2.1 32 = .ok (.ifCond .le 20, 3) := by decide +kernel
theorem dd_X12_owedTo_35 : decode Y_X12_owedTo.2.1 35 = .ok (.aload_n 0, 1) := by decide +kernel
theorem dd_X12_owedTo_36 : decode Y_X12_owedTo.2.1 36 = .ok (.getfield 87, 3) := by decide +kernel
theorem dd_X12_owedTo_39 : decode Y_X12_owedTo.2.1 39 = .ok (.bipush 8, 2) := by decide +kernel
theorem dd_X12_owedTo_41 : decode Y_X12_owedTo.2.1 41 = .ok (.bipush 8, 2) := by decide +kernel
theorem dd_X12_owedTo_43 : decode Y_X12_owedTo.2.1 43 = .ok (.iload_n 3, 1) := by decide +kernel
theorem dd_X12_owedTo_44 : decode Y_X12_owedTo.2.1 44 = .ok (.imul, 1) := by decide +kernel
theorem dd_X12_owedTo_45 : decode Y_X12_owedTo.2.1 45 = .ok (.iadd, 1) := by decide +kernel
theorem dd_X12_owedTo_46 : decode Y_X12_owedTo.2.1 46 = .ok (.iload_n 1, 1) := by decide +kernel
theorem dd_X12_owedTo_47 : decode Y_X12_owedTo.2.1 47 = .ok (.iadd, 1) := by decide +kernel
theorem dd_X12_owedTo_48 : decode Y_X12_owedTo.2.1 48 = .ok (.iaload, 1) := by decide +kernel
theorem dd_X12_owedTo_49 : decode Y_X12_owedTo.2.1 49 = .ok (.goto 4, 3) := by decide +kernel
theorem dd_X12_owedTo_52 : decode Y_X12_owedTo.2.1 52 = .ok (.iconst 0, 1) := by decide +kernel
theorem dd_X12_owedTo_53 : decode Y_X12_owedTo.2.1 53 = .ok (.iadd, 1) := by decide +kernel
theorem dd_X12_owedTo_54 : decode Y_X12_owedTo.2.1 54 = .ok (.istore_n 2, 1) := by decide +kernel
theorem dd_X12_owedTo_55 : decode Y_X12_owedTo.2.1 55 = .ok (.iinc 3 1, 3) := by decide +kernel
theorem dd_X12_owedTo_58 : decode Y_X12_owedTo.2.1 58 = .ok (.goto (-54), 3) := by decide +kernel
theorem dd_X12_owedTo_61 : decode Y_X12_owedTo.2.1 61 = .ok (.iload_n 2, 1) := by decide +kernel
theorem dd_X12_owedTo_62 : decode Y_X12_owedTo.2.1 62 = .ok (.ireturn, 1) := by decide +kernel
def F_X12_owedTo_L4 (x0 : Nat) (x1 : Int32) (K61 : Int32 → zM → zO) : Nat → Int32 → Int32 → zM → zO
  | 0, _, _, _ => none
  | n + 1, x2, x3, M => zit ((M x0 1) ≤ x3) (K61 x2 M) (zjo (fun (w1 : Int32) (M2 : zM) => zlt (x2 + w1) (fun v1 => F_X12_owedTo_L4 x0 x1 K61 n v1 (x3 + 1) M2)) (fun (k1 : Int32 → zM → zO) => zjo (fun  (M1 : zM) => k1 0 M1) (fun (k2 : zM → zO) => zit (x3 = x1) (k2 M) (zck (zin ((8 + (8 * x3)) + x1) 73) (zit ((M (zgr x0 47) (zix ((8 + (8 * x3)) + x1))) ≤ 0) (k2 M) (zck (zin ((8 + (8 * x3)) + x1) 73) (k1 (M (zgr x0 47) (zix ((8 + (8 * x3)) + x1))) M)))))))
def F_X12_owedTo (t : Nat) (a1 : Int32) (M : zM) : zO := F_X12_owedTo_L4 t a1 (fun (y1 : Int32) (M3 : zM) => zI y1 M3) zN 0 0 M
set_option maxHeartbeats 1000000 in
set_option maxRecDepth 20000 in
theorem ct_X12_owedTo_L4 (l : Launch) (hl : l.stackTraces = false) (G : zG) (x0 : Nat) (hx0 : zsh x0 = 12) (x1 : Int32) (K61 : Int32 → zM → zO) (hK61 : ∀ (x2 : Int32) (M : zM), zEv l G Y_X12_owedTo 1 0 61 [(2, .int x2)] [] M (K61 x2 M)) : ∀ (n : Nat) (x2 : Int32) (x3 : Int32) (M : zM), zEv l G Y_X12_owedTo 1 0 4 [(0, .ref (G.2.1 + x0)), (1, .int x1), (2, .int x2), (3, .int x3)] [] M (F_X12_owedTo_L4 x0 x1 K61 n x2 x3 M) := by
  intro n
  induction n with
  | zero => intro x2 x3 M; exact ev_none
  | succ n ih =>
    intro x2 x3 M
    show zEv l G Y_X12_owedTo 1 0 4 [(0, .ref (G.2.1 + x0)), (1, .int x1), (2, .int x2), (3, .int x3)] [] M (zit ((M x0 1) ≤ x3) (K61 x2 M) (zjo (fun (w1 : Int32) (M2 : zM) => zlt (x2 + w1) (fun v1 => F_X12_owedTo_L4 x0 x1 K61 n v1 (x3 + 1) M2)) (fun (k1 : Int32 → zM → zO) => zjo (fun  (M1 : zM) => k1 0 M1) (fun (k2 : zM → zO) => zit (x3 = x1) (k2 M) (zck (zin ((8 + (8 * x3)) + x1) 73) (zit ((M (zgr x0 47) (zix ((8 + (8 * x3)) + x1))) ≤ 0) (k2 M) (zck (zin ((8 + (8 * x3)) + x1) 73) (k1 (M (zgr x0 47) (zix ((8 + (8 * x3)) + x1))) M))))))))
    refine ev_iload_n dd_X12_owedTo_4 3 rfl ?_
    refine ev_aload_n dd_X12_owedTo_5 0 rfl ?_
    refine ev_getI gf_RX12_319 dd_X12_owedTo_6 hx0 (by decide) ?_
    refine ev_icmp_ge 61 dd_X12_owedTo_9 (by decide) ?_ ?_
    · refine ev_lv (lv' := [(2, .int x2)]) [2] rfl ?_
      exact hK61 _ _
    · refine ev_iload_n dd_X12_owedTo_12 2 rfl ?_
      refine ev_lv (lv' := [(0, .ref (G.2.1 + x0)), (1, .int x1), (3, .int x3)]) [0, 1, 3] rfl ?_
      refine ev_iload_n dd_X12_owedTo_13 2 rfl ?_
      refine ev_iload_n dd_X12_owedTo_14 1 rfl ?_
      refine ev_jo (fun (k1 : Int32 → zM → zO) => ∀ (w1 : Int32) (M2 : zM), zEv l G Y_X12_owedTo 1 0 53 [(0, .ref (G.2.1 + x0)), (1, .int x1), (3, .int x3)] [.int w1, .int x2] M2 (k1 w1 M2)) ?_ (fun k1 hk1 => ?_)
      · intro w1 M2
        refine ev_iadd dd_X12_owedTo_53 ?_
        refine ev_topi (fun v1 => ?_)
        refine ev_istore_n (i := 2) (lv' := [(0, .ref (G.2.1 + x0)), (1, .int x1), (2, .int v1), (3, .int x3)]) [1, 2, 0, 3] dd_X12_owedTo_54 rfl (by decide) rfl ?_
        refine ev_iinc (j := 3) (v := 1) (lv' := [(0, .ref (G.2.1 + x0)), (1, .int x1), (2, .int v1), (3, .int (x3 + 1))]) [1, 2, 3, 0] dd_X12_owedTo_55 rfl (by decide) (by decide) rfl ?_
        refine ev_goto 4 dd_X12_owedTo_58 (by decide) ?_
        exact ih _ _ _
      · refine ev_jo (fun (k2 : zM → zO) => ∀  (M1 : zM), zEv l G Y_X12_owedTo 1 0 52 [(0, .ref (G.2.1 + x0)), (1, .int x1), (3, .int x3)] [.int x2] M1 (k2 M1)) ?_ (fun k2 hk2 => ?_)
        · intro M1
          refine ev_iconst (v := 0) dd_X12_owedTo_52 (by decide) ?_
          exact hk1 _ _
        · refine ev_icmp_eq 52 dd_X12_owedTo_15 (by decide) ?_ ?_
          · exact hk2 _
          · refine ev_aload_n dd_X12_owedTo_18 0 rfl ?_
            refine ev_getR gf_RX12_87 dd_X12_owedTo_19 hx0 (by decide) ?_
            refine ev_bipush (v := 8) dd_X12_owedTo_22 (by decide) ?_
            refine ev_bipush (v := 8) dd_X12_owedTo_24 (by decide) ?_
            refine ev_iload_n dd_X12_owedTo_26 2 rfl ?_
            refine ev_imul dd_X12_owedTo_27 ?_
            refine ev_iadd dd_X12_owedTo_28 ?_
            refine ev_iload_n dd_X12_owedTo_29 1 rfl ?_
            refine ev_iadd dd_X12_owedTo_30 ?_
            refine ev_iald dd_X12_owedTo_31 ((zg_12_47 hx0).1) ((zg_12_47 hx0).2) ?_
            refine ev_if_le 52 dd_X12_owedTo_32 (by decide) ?_ ?_
            · exact hk2 _
            · refine ev_aload_n dd_X12_owedTo_35 0 rfl ?_
              refine ev_getR gf_RX12_87 dd_X12_owedTo_36 hx0 (by decide) ?_
              refine ev_bipush (v := 8) dd_X12_owedTo_39 (by decide) ?_
              refine ev_bipush (v := 8) dd_X12_owedTo_41 (by decide) ?_
              refine ev_iload_n dd_X12_owedTo_43 2 rfl ?_
              refine ev_imul dd_X12_owedTo_44 ?_
              refine ev_iadd dd_X12_owedTo_45 ?_
              refine ev_iload_n dd_X12_owedTo_46 1 rfl ?_
              refine ev_iadd dd_X12_owedTo_47 ?_
              refine ev_iald dd_X12_owedTo_48 ((zg_12_47 hx0).1) ((zg_12_47 hx0).2) ?_
              refine ev_goto 53 dd_X12_owedTo_49 (by decide) ?_
              exact hk1 _ _
set_option maxHeartbeats 1000000 in
set_option maxRecDepth 20000 in
theorem ct_X12_owedTo (l : Launch) (hl : l.stackTraces = false) (G : zG) (t : Nat) (ht : zsh t = 12) (a1 : Int32) (M : zM) : zMt l G Y_X12_owedTo 1 [.ref (G.2.1 + t), .int a1] M (F_X12_owedTo t a1 M) := by
  refine zMt_of (by decide +kernel) (Nat.le_of_ble_eq_true rfl) ?_
  show zEv l G Y_X12_owedTo 1 0 0 [(0, .ref (G.2.1 + t)), (1, .int a1)] [] M (F_X12_owedTo_L4 t a1 (fun (y1 : Int32) (M3 : zM) => zI y1 M3) zN 0 0 M)
  refine ev_iconst (v := 0) dd_X12_owedTo_0 (by decide) ?_
  refine ev_istore_n (i := 2) (lv' := [(0, .ref (G.2.1 + t)), (1, .int a1), (2, .int 0)]) [1, 2, 0] dd_X12_owedTo_1 rfl (by decide) rfl ?_
  refine ev_iconst (v := 0) dd_X12_owedTo_2 (by decide) ?_
  refine ev_istore_n (i := 3) (lv' := [(0, .ref (G.2.1 + t)), (1, .int a1), (2, .int 0), (3, .int 0)]) [1, 2, 3, 0] dd_X12_owedTo_3 rfl (by decide) rfl ?_
  refine ct_X12_owedTo_L4 l hl G t ht a1 _ (fun y1 M3 => ?_) zN _ _ _
  refine ev_iload_n dd_X12_owedTo_61 0 rfl ?_
  refine ev_lv (lv' := []) [] rfl ?_
  exact ev_iret dd_X12_owedTo_62 rfl (Nat.le_of_ble_eq_true rfl) rfl
/-! X12_owed -/
theorem dd_X12_owed_0 : decode Y_X12_owed.2.1 0 = .ok (.aload_n 0, 1) := by decide +kernel
theorem dd_X12_owed_1 : decode Y_X12_owed.2.1 1 = .ok (.iconst 0, 1) := by decide +kernel
theorem dd_X12_owed_2 : decode Y_X12_owed.2.1 2 = .ok (.putfield 153, 3) := by decide +kernel
theorem dd_X12_owed_5 : decode Y_X12_owed.2.1 5 = .ok (.aload_n 0, 1) := by decide +kernel
theorem dd_X12_owed_6 : decode Y_X12_owed.2.1 6 = .ok (.iload_n 1, 1) := by decide +kernel
theorem dd_X12_owed_7 : decode Y_X12_owed.2.1 7 = .ok (.iconst 1, 1) := by decide +kernel
theorem dd_X12_owed_8 : decode Y_X12_owed.2.1 8 = .ok (.invokevirtual 349, 3) := by decide +kernel
theorem dd_X12_owed_11 : decode Y_X12_owed.2.1 11 = .ok (.ifCond .ne 5, 3) := by decide +kernel
theorem dd_X12_owed_14 : decode Y_X12_owed.2.1 14 = .ok (.iconst 0, 1) := by decide +kernel
theorem dd_X12_owed_15 : decode Y_X12_owed.2.1 15 = .ok (.ireturn, 1) := by decide +kernel
theorem dd_X12_owed_16 : decode Y_X12_owed.2.1 16 = .ok (.iconst (-1), 1) := by decide +kernel
theorem dd_X12_owed_17 : decode Y_X12_owed.2.1 17 = .ok (.istore_n 2, 1) := by decide +kernel
theorem dd_X12_owed_18 : decode Y_X12_owed.2.1 18 = .ok (.iconst 0, 1) := by decide +kernel
theorem dd_X12_owed_19 : decode Y_X12_owed.2.1 19 = .ok (.istore_n 3, 1) := by decide +kernel
theorem dd_X12_owed_20 : decode Y_X12_owed.2.1 20 = .ok (.iconst 0, 1) := by decide +kernel
theorem dd_X12_owed_21 : decode Y_X12_owed.2.1 21 = .ok (.istore 4, 2) := by decide +kernel
theorem dd_X12_owed_23 : decode Y_X12_owed.2.1 23 = .ok (.iload 4, 2) := by decide +kernel
theorem dd_X12_owed_25 : decode Y_X12_owed.2.1 25 = .ok (.aload_n 0, 1) := by decide +kernel
theorem dd_X12_owed_26 : decode Y_X12_owed.2.1 26 = .ok (.getfield 319, 3) := by decide +kernel
theorem dd_X12_owed_29 : decode Y_X12_owed.2.1 29 = .ok (.if_icmp .ge 32, 3) := by decide +kernel
theorem dd_X12_owed_32 : decode Y_X12_owed.2.1 32 = .ok (.aload_n 0, 1) := by decide +kernel
theorem dd_X12_owed_33 : decode Y_X12_owed.2.1 33 = .ok (.iload 4, 2) := by decide +kernel
theorem dd_X12_owed_35 : decode Y_X12_owed.2.1 35 = .ok (.invokevirtual 450, 3) := by decide +kernel
theorem dd_X12_owed_38 : decode Y_X12_owed.2.1 38 = .ok (.iload_n 3, 1) := by decide +kernel
theorem dd_X12_owed_39 : decode Y_X12_owed.2.1 39 = .ok (.if_icmp .gt 6, 3) := by decide +kernel
theorem dd_X12_owed_42 : decode Y_X12_owed.2.1 42 = .ok (.goto 13, 3) := by decide +kernel
theorem dd_X12_owed_45 : decode Y_X12_owed.2.1 45 = .ok (.iload 4, 2) := by decide +kernel
theorem dd_X12_owed_47 : decode Y_X12_owed.2.1 47 = .ok (.istore_n 2, 1) := by decide +kernel
theorem dd_X12_owed_48 : decode Y_X12_owed.2.1 48 = .ok (.aload_n 0, 1) := by decide +kernel
theorem dd_X12_owed_49 : decode Y_X12_owed.2.1 49 = .ok (.iload 4, 2) := by decide +kernel
theorem dd_X12_owed_51 : decode Y_X12_owed.2.1 51 = .ok (.invokevirtual 450, 3) := by decide +kernel
theorem dd_X12_owed_54 : decode Y_X12_owed.2.1 54 = .ok (.istore_n 3, 1) := by decide +kernel
theorem dd_X12_owed_55 : decode Y_X12_owed.2.1 55 = .ok (.iinc 4 1, 3) := by decide +kernel
theorem dd_X12_owed_58 : decode Y_X12_owed.2.1 58 = .ok (.goto (-35), 3) := by decide +kernel
theorem dd_X12_owed_61 : decode Y_X12_owed.2.1 61 = .ok (.iload_n 1, 1) := by decide +kernel
theorem dd_X12_owed_62 : decode Y_X12_owed.2.1 62 = .ok (.ifCond .ne 7, 3) := by decide +kernel
theorem dd_X12_owed_65 : decode Y_X12_owed.2.1 65 = .ok (.iload_n 2, 1) := by decide +kernel
theorem dd_X12_owed_66 : decode Y_X12_owed.2.1 66 = .ok (.goto 4, 3) := by decide +kernel
theorem dd_X12_owed_69 : decode Y_X12_owed.2.1 69 = .ok (.iload_n 3, 1) := by decide +kernel
theorem dd_X12_owed_70 : decode Y_X12_owed.2.1 70 = .ok (.ireturn, 1) := by decide +kernel
def F_X12_owed_L23 (x0 : Nat) (x1 : Int32) (K61 : Int32 → Int32 → zM → zO) : Nat → Int32 → Int32 → Int32 → zM → zO
  | 0, _, _, _, _ => none
  | n + 1, x2, x3, x4, M => zit ((M x0 1) ≤ x4) (K61 x2 x3 M) (zbI (F_X12_owedTo x0 x4 M) (fun r2 M3 => zjo (fun (w1 : Int32) (w2 : Int32) (M5 : zM) => F_X12_owed_L23 x0 x1 K61 n w1 w2 (x4 + 1) M5) (fun (k1 : Int32 → Int32 → zM → zO) => zit (x3 < r2) (zbI (F_X12_owedTo x0 x4 M3) (fun r3 M4 => k1 x4 r3 M4)) (k1 x2 x3 M3))))
def F_X12_owed (t : Nat) (a1 : Int32) (M : zM) : zO := zst (zup M t 0 0) (fun M1 => zbI (F_X12_isWhat t a1 1 M1) (fun r1 M2 => zit (r1 = 0) (zI 0 M2) (F_X12_owed_L23 t a1 (fun (y1 : Int32) (y2 : Int32) (M6 : zM) => zjo (fun (w3 : Int32) (M7 : zM) => zI w3 M7) (fun (k2 : Int32 → zM → zO) => zit (a1 = 0) (k2 y1 M6) (k2 y2 M6))) zN (-1) 0 0 M2)))
set_option maxHeartbeats 1000000 in
set_option maxRecDepth 20000 in
theorem ct_X12_owed_L23 (l : Launch) (hl : l.stackTraces = false) (G : zG) (x0 : Nat) (hx0 : zsh x0 = 12) (x1 : Int32) (K61 : Int32 → Int32 → zM → zO) (hK61 : ∀ (x2 : Int32) (x3 : Int32) (M : zM), zEv l G Y_X12_owed 3 0 61 [(1, .int x1), (2, .int x2), (3, .int x3)] [] M (K61 x2 x3 M)) : ∀ (n : Nat) (x2 : Int32) (x3 : Int32) (x4 : Int32) (M : zM), zEv l G Y_X12_owed 3 0 23 [(0, .ref (G.2.1 + x0)), (1, .int x1), (2, .int x2), (3, .int x3), (4, .int x4)] [] M (F_X12_owed_L23 x0 x1 K61 n x2 x3 x4 M) := by
  intro n
  induction n with
  | zero => intro x2 x3 x4 M; exact ev_none
  | succ n ih =>
    intro x2 x3 x4 M
    show zEv l G Y_X12_owed 3 0 23 [(0, .ref (G.2.1 + x0)), (1, .int x1), (2, .int x2), (3, .int x3), (4, .int x4)] [] M (zit ((M x0 1) ≤ x4) (K61 x2 x3 M) (zbI (F_X12_owedTo x0 x4 M) (fun r2 M3 => zjo (fun (w1 : Int32) (w2 : Int32) (M5 : zM) => F_X12_owed_L23 x0 x1 K61 n w1 w2 (x4 + 1) M5) (fun (k1 : Int32 → Int32 → zM → zO) => zit (x3 < r2) (zbI (F_X12_owedTo x0 x4 M3) (fun r3 M4 => k1 x4 r3 M4)) (k1 x2 x3 M3)))))
    refine ev_iload dd_X12_owed_23 4 rfl ?_
    refine ev_aload_n dd_X12_owed_25 0 rfl ?_
    refine ev_getI gf_RX12_319 dd_X12_owed_26 hx0 (by decide) ?_
    refine ev_icmp_ge 61 dd_X12_owed_29 (by decide) ?_ ?_
    · refine ev_lv (lv' := [(1, .int x1), (2, .int x2), (3, .int x3)]) [1, 2, 3] rfl ?_
      exact hK61 _ _ _
    · refine ev_aload_n dd_X12_owed_32 0 rfl ?_
      refine ev_iload dd_X12_owed_33 4 rfl ?_
      refine ev_callVI (As := [.int x4]) cl_RX12_450 (ct_X12_owedTo l hl G x0 hx0 x4 M) dd_X12_owed_35 hx0 (by decide) (Nat.le_of_ble_eq_true rfl) (Nat.le_of_ble_eq_true rfl) rfl rfl (fun r2 M3 => ?_)
      refine ev_iload_n dd_X12_owed_38 3 rfl ?_
      refine ev_jo (fun (k1 : Int32 → Int32 → zM → zO) => ∀ (w1 : Int32) (w2 : Int32) (M5 : zM), zEv l G Y_X12_owed 3 0 55 [(0, .ref (G.2.1 + x0)), (1, .int x1), (2, .int w1), (3, .int w2), (4, .int x4)] [] M5 (k1 w1 w2 M5)) ?_ (fun k1 hk1 => ?_)
      · intro w1 w2 M5
        refine ev_iinc (j := 4) (v := 1) (lv' := [(0, .ref (G.2.1 + x0)), (1, .int x1), (2, .int w1), (3, .int w2), (4, .int (x4 + 1))]) [1, 2, 3, 4, 0] dd_X12_owed_55 rfl (by decide) (by decide) rfl ?_
        refine ev_goto 23 dd_X12_owed_58 (by decide) ?_
        exact ih _ _ _ _
      · refine ev_icmp_gt 45 dd_X12_owed_39 (by decide) ?_ ?_
        · refine ev_lv (lv' := [(0, .ref (G.2.1 + x0)), (1, .int x1), (4, .int x4)]) [0, 1, 4] rfl ?_
          refine ev_iload dd_X12_owed_45 2 rfl ?_
          refine ev_istore_n (i := 2) (lv' := [(0, .ref (G.2.1 + x0)), (1, .int x1), (2, .int x4), (4, .int x4)]) [1, 2, 0, 3] dd_X12_owed_47 rfl (by decide) rfl ?_
          refine ev_aload_n dd_X12_owed_48 0 rfl ?_
          refine ev_iload dd_X12_owed_49 3 rfl ?_
          refine ev_callVI (As := [.int x4]) cl_RX12_450 (ct_X12_owedTo l hl G x0 hx0 x4 M3) dd_X12_owed_51 hx0 (by decide) (Nat.le_of_ble_eq_true rfl) (Nat.le_of_ble_eq_true rfl) rfl rfl (fun r3 M4 => ?_)
          refine ev_istore_n (i := 3) (lv' := [(0, .ref (G.2.1 + x0)), (1, .int x1), (2, .int x4), (3, .int r3), (4, .int x4)]) [1, 2, 3, 0, 4] dd_X12_owed_54 rfl (by decide) rfl ?_
          exact hk1 _ _ _
        · refine ev_goto 55 dd_X12_owed_42 (by decide) ?_
          exact hk1 _ _ _
set_option maxHeartbeats 1000000 in
set_option maxRecDepth 20000 in
theorem ct_X12_owed (l : Launch) (hl : l.stackTraces = false) (G : zG) (t : Nat) (ht : zsh t = 12) (a1 : Int32) (M : zM) : zMt l G Y_X12_owed 3 [.ref (G.2.1 + t), .int a1] M (F_X12_owed t a1 M) := by
  refine zMt_of (by decide +kernel) (Nat.le_of_ble_eq_true rfl) ?_
  show zEv l G Y_X12_owed 3 0 0 [(0, .ref (G.2.1 + t)), (1, .int a1)] [] M (zst (zup M t 0 0) (fun M1 => zbI (F_X12_isWhat t a1 1 M1) (fun r1 M2 => zit (r1 = 0) (zI 0 M2) (F_X12_owed_L23 t a1 (fun (y1 : Int32) (y2 : Int32) (M6 : zM) => zjo (fun (w3 : Int32) (M7 : zM) => zI w3 M7) (fun (k2 : Int32 → zM → zO) => zit (a1 = 0) (k2 y1 M6) (k2 y2 M6))) zN (-1) 0 0 M2))))
  refine ev_aload_n dd_X12_owed_0 0 rfl ?_
  refine ev_iconst (v := 0) dd_X12_owed_1 (by decide) ?_
  refine ev_putI gw_RX12_153 dd_X12_owed_2 ht (by decide) ?_
  refine ev_st (fun M1 => ?_)
  refine ev_aload_n dd_X12_owed_5 0 rfl ?_
  refine ev_iload_n dd_X12_owed_6 1 rfl ?_
  refine ev_iconst (v := 1) dd_X12_owed_7 (by decide) ?_
  refine ev_callVI (As := [.int a1, .int 1]) cl_RX12_349 (ct_X12_isWhat l hl G t ht a1 1 M1) dd_X12_owed_8 ht (by decide) (Nat.le_of_ble_eq_true rfl) (Nat.le_of_ble_eq_true rfl) rfl rfl (fun r1 M2 => ?_)
  refine ev_if_ne 16 dd_X12_owed_11 (by decide) ?_ ?_
  · refine ev_iconst (v := (-1)) dd_X12_owed_16 (by decide) ?_
    refine ev_istore_n (i := 2) (lv' := [(0, .ref (G.2.1 + t)), (1, .int a1), (2, .int (-1))]) [1, 2, 0] dd_X12_owed_17 rfl (by decide) rfl ?_
    refine ev_iconst (v := 0) dd_X12_owed_18 (by decide) ?_
    refine ev_istore_n (i := 3) (lv' := [(0, .ref (G.2.1 + t)), (1, .int a1), (2, .int (-1)), (3, .int 0)]) [1, 2, 3, 0] dd_X12_owed_19 rfl (by decide) rfl ?_
    refine ev_iconst (v := 0) dd_X12_owed_20 (by decide) ?_
    refine ev_istore (i := 4) (lv' := [(0, .ref (G.2.1 + t)), (1, .int a1), (2, .int (-1)), (3, .int 0), (4, .int 0)]) [1, 2, 3, 4, 0] dd_X12_owed_21 (by decide) rfl ?_
    refine ct_X12_owed_L23 l hl G t ht a1 _ (fun y1 y2 M6 => ?_) zN _ _ _ _
    refine ev_iload_n dd_X12_owed_61 0 rfl ?_
    refine ev_lv (lv' := [(2, .int y1), (3, .int y2)]) [1, 2] rfl ?_
    refine ev_jo (fun (k2 : Int32 → zM → zO) => ∀ (w3 : Int32) (M7 : zM), zEv l G Y_X12_owed 3 0 70 [] [.int w3] M7 (k2 w3 M7)) ?_ (fun k2 hk2 => ?_)
    · intro w3 M7
      exact ev_iret dd_X12_owed_70 rfl (Nat.le_of_ble_eq_true rfl) rfl
    · refine ev_if_ne 69 dd_X12_owed_62 (by decide) ?_ ?_
      · refine ev_lv (lv' := [(3, .int y2)]) [1] rfl ?_
        refine ev_iload_n dd_X12_owed_69 0 rfl ?_
        refine ev_lv (lv' := []) [] rfl ?_
        exact hk2 _ _
      · refine ev_lv (lv' := [(2, .int y1)]) [0] rfl ?_
        refine ev_iload_n dd_X12_owed_65 0 rfl ?_
        refine ev_lv (lv' := []) [] rfl ?_
        refine ev_goto 70 dd_X12_owed_66 (by decide) ?_
        exact hk2 _ _
  · refine ev_lv (lv' := []) [] rfl ?_
    refine ev_iconst (v := 0) dd_X12_owed_14 (by decide) ?_
    exact ev_iret dd_X12_owed_15 rfl (Nat.le_of_ble_eq_true rfl) rfl
/-! X12_pointsTo -/
theorem dd_X12_pointsTo_0 : decode Y_X12_pointsTo.2.1 0 = .ok (.iload_n 1, 1) := by decide +kernel
theorem dd_X12_pointsTo_1 : decode Y_X12_pointsTo.2.1 1 = .ok (.istore_n 3, 1) := by decide +kernel
theorem dd_X12_pointsTo_2 : decode Y_X12_pointsTo.2.1 2 = .ok (.iconst 0, 1) := by decide +kernel
theorem dd_X12_pointsTo_3 : decode Y_X12_pointsTo.2.1 3 = .ok (.istore 4, 2) := by decide +kernel
theorem dd_X12_pointsTo_5 : decode Y_X12_pointsTo.2.1 5 = .ok (.iload 4, 2) := by decide +kernel
theorem dd_X12_pointsTo_7 : decode Y_X12_pointsTo.2.1 7 = .ok (.aload_n 0, 1) := by decide +kernel
theorem dd_X12_pointsTo_8 : decode Y_X12_pointsTo.2.1 8 = .ok (.getfield 319, 3) := by decide +kernel
theorem dd_X12_pointsTo_11 : decode Y_X12_pointsTo.2.1 11 = .ok (.if_icmp .ge 43, 3) := by decide +kernel
theorem dd_X12_pointsTo_14 : decode Y_X12_pointsTo.2.1 14 = .ok (.iload_n 2, 1) := by decide +kernel
theorem dd_X12_pointsTo_15 : decode Y_X12_pointsTo.2.1 15 = .ok (.iload 4, 2) := by decide +kernel
theorem dd_X12_pointsTo_17 : decode Y_X12_pointsTo.2.1 17 = .ok (.ishr, 1) := by decide +kernel
theorem dd_X12_pointsTo_18 : decode Y_X12_pointsTo.2.1 18 = .ok (.iconst 1, 1) := by decide +kernel
theorem dd_X12_pointsTo_19 : decode Y_X12_pointsTo.2.1 19 = .ok (.iand, 1) := by decide +kernel
theorem dd_X12_pointsTo_20 : decode Y_X12_pointsTo.2.1 20 = .ok (.iconst 1, 1) := by decide +kernel
theorem dd_X12_pointsTo_21 : decode Y_X12_pointsTo.2.1 21 = .ok (.if_icmp .ne 27, 3) := by decide +kernel
theorem dd_X12_pointsTo_24 : decode Y_X12_pointsTo.2.1 24 = .ok (.aload_n 0, 1) := by decide +kernel
theorem dd_X12_pointsTo_25 : decode Y_X12_pointsTo.2.1 25 = .ok (.iload_n 1, 1) := by decide +kernel
theorem dd_X12_pointsTo_26 : decode Y_X12_pointsTo.2.1 26 = .ok (.aload_n 0, 1) := by decide +kernel
theorem dd_X12_pointsTo_27 : decode Y_X12_pointsTo.2.1 27 = .ok (.getfield 87, 3) := by decide +kernel
theorem dd_X12_pointsTo_30 : decode Y_X12_pointsTo.2.1 30 = .ok (.iload 4, 2) := by decide +kernel
theorem dd_X12_pointsTo_32 : decode Y_X12_pointsTo.2.1 32 = .ok (.iaload, 1) := by decide +kernel
theorem dd_X12_pointsTo_33 : decode Y_X12_pointsTo.2.1 33 = .ok (.aload_n 0, 1) := by decide +kernel
theorem dd_X12_pointsTo_34 : decode Y_X12_pointsTo.2.1 34 = .ok (.getfield 87, 3) := by decide +kernel
theorem dd_X12_pointsTo_37 : decode Y_X12_pointsTo.2.1 37 = .ok (.iload_n 3, 1) := by decide +kernel
theorem dd_X12_pointsTo_38 : decode Y_X12_pointsTo.2.1 38 = .ok (.iaload, 1) := by decide +kernel
theorem dd_X12_pointsTo_39 : decode Y_X12_pointsTo.2.1 39 = .ok (.invokevirtual 400, 3) := by decide +kernel
theorem dd_X12_pointsTo_42 : decode Y_X12_pointsTo.2.1 42 = .ok (.ifCond .eq 6, 3) := by decide +kernel
theorem dd_X12_pointsTo_45 : decode Y_X12_pointsTo.2.1 45 = .ok (.iload 4, 2) := by decide +kernel
theorem dd_X12_pointsTo_47 : decode Y_X12_pointsTo.2.1 47 = .ok (.istore_n 3, 1) := by decide +kernel
theorem dd_X12_pointsTo_48 : decode Y_X12_pointsTo.2.1 48 = .ok (.iinc 4 1, 3) := by decide +kernel
theorem dd_X12_pointsTo_51 : decode Y_X12_pointsTo.2.1 51 = .ok (.goto (-46), 3) := by decide +kernel
theorem dd_X12_pointsTo_54 : decode Y_X12_pointsTo.2.1 54 = .ok (.iload_n 3, 1) := by decide +kernel
theorem dd_X12_pointsTo_55 : decode Y_X12_pointsTo.2.1 55 = .ok (.ireturn, 1) := by decide +kernel
def F_X12_pointsTo_L5 (x0 : Nat) (x1 : Int32) (x2 : Int32) (K54 : Int32 → zM → zO) : Nat → Int32 → Int32 → zM → zO
  | 0, _, _, _ => none
  | n + 1, x3, x4, M => zit ((M x0 1) ≤ x4) (K54 x3 M) (zjo (fun (w1 : Int32) (M2 : zM) => F_X12_pointsTo_L5 x0 x1 x2 K54 n w1 (x4 + 1) M2) (fun (k1 : Int32 → zM → zO) => zit (((x2 >>> (x4 &&& 31)) &&& 1) = 1) (zck (zin x4 73) (zck (zin x3 73) (zbI (F_X12_likes x0 x1 (M (zgr x0 47) (zix x4)) (M (zgr x0 47) (zix x3)) M) (fun r1 M1 => zit (r1 = 0) (k1 x3 M1) (k1 x4 M1))))) (k1 x3 M)))
def F_X12_pointsTo (t : Nat) (a1 : Int32) (a2 : Int32) (M : zM) : zO := F_X12_pointsTo_L5 t a1 a2 (fun (y1 : Int32) (M3 : zM) => zI y1 M3) zN a1 0 M
set_option maxHeartbeats 1000000 in
set_option maxRecDepth 20000 in
theorem ct_X12_pointsTo_L5 (l : Launch) (hl : l.stackTraces = false) (G : zG) (x0 : Nat) (hx0 : zsh x0 = 12) (x1 : Int32) (x2 : Int32) (K54 : Int32 → zM → zO) (hK54 : ∀ (x3 : Int32) (M : zM), zEv l G Y_X12_pointsTo 3 0 54 [(3, .int x3)] [] M (K54 x3 M)) : ∀ (n : Nat) (x3 : Int32) (x4 : Int32) (M : zM), zEv l G Y_X12_pointsTo 3 0 5 [(0, .ref (G.2.1 + x0)), (1, .int x1), (2, .int x2), (3, .int x3), (4, .int x4)] [] M (F_X12_pointsTo_L5 x0 x1 x2 K54 n x3 x4 M) := by
  intro n
  induction n with
  | zero => intro x3 x4 M; exact ev_none
  | succ n ih =>
    intro x3 x4 M
    show zEv l G Y_X12_pointsTo 3 0 5 [(0, .ref (G.2.1 + x0)), (1, .int x1), (2, .int x2), (3, .int x3), (4, .int x4)] [] M (zit ((M x0 1) ≤ x4) (K54 x3 M) (zjo (fun (w1 : Int32) (M2 : zM) => F_X12_pointsTo_L5 x0 x1 x2 K54 n w1 (x4 + 1) M2) (fun (k1 : Int32 → zM → zO) => zit (((x2 >>> (x4 &&& 31)) &&& 1) = 1) (zck (zin x4 73) (zck (zin x3 73) (zbI (F_X12_likes x0 x1 (M (zgr x0 47) (zix x4)) (M (zgr x0 47) (zix x3)) M) (fun r1 M1 => zit (r1 = 0) (k1 x3 M1) (k1 x4 M1))))) (k1 x3 M))))
    refine ev_iload dd_X12_pointsTo_5 4 rfl ?_
    refine ev_aload_n dd_X12_pointsTo_7 0 rfl ?_
    refine ev_getI gf_RX12_319 dd_X12_pointsTo_8 hx0 (by decide) ?_
    refine ev_icmp_ge 54 dd_X12_pointsTo_11 (by decide) ?_ ?_
    · refine ev_lv (lv' := [(3, .int x3)]) [3] rfl ?_
      exact hK54 _ _
    · refine ev_iload_n dd_X12_pointsTo_14 2 rfl ?_
      refine ev_iload dd_X12_pointsTo_15 4 rfl ?_
      refine ev_ishr dd_X12_pointsTo_17 ?_
      refine ev_iconst (v := 1) dd_X12_pointsTo_18 (by decide) ?_
      refine ev_iand dd_X12_pointsTo_19 ?_
      refine ev_iconst (v := 1) dd_X12_pointsTo_20 (by decide) ?_
      refine ev_jo (fun (k1 : Int32 → zM → zO) => ∀ (w1 : Int32) (M2 : zM), zEv l G Y_X12_pointsTo 3 0 48 [(0, .ref (G.2.1 + x0)), (1, .int x1), (2, .int x2), (3, .int w1), (4, .int x4)] [] M2 (k1 w1 M2)) ?_ (fun k1 hk1 => ?_)
      · intro w1 M2
        refine ev_iinc (j := 4) (v := 1) (lv' := [(0, .ref (G.2.1 + x0)), (1, .int x1), (2, .int x2), (3, .int w1), (4, .int (x4 + 1))]) [1, 2, 3, 4, 0] dd_X12_pointsTo_48 rfl (by decide) (by decide) rfl ?_
        refine ev_goto 5 dd_X12_pointsTo_51 (by decide) ?_
        exact ih _ _ _
      · refine ev_icmp_ne 48 dd_X12_pointsTo_21 (by decide) ?_ ?_
        · exact hk1 _ _
        · refine ev_aload_n dd_X12_pointsTo_24 0 rfl ?_
          refine ev_iload_n dd_X12_pointsTo_25 1 rfl ?_
          refine ev_aload_n dd_X12_pointsTo_26 0 rfl ?_
          refine ev_getR gf_RX12_87 dd_X12_pointsTo_27 hx0 (by decide) ?_
          refine ev_iload dd_X12_pointsTo_30 4 rfl ?_
          refine ev_iald dd_X12_pointsTo_32 ((zg_12_47 hx0).1) ((zg_12_47 hx0).2) ?_
          refine ev_aload_n dd_X12_pointsTo_33 0 rfl ?_
          refine ev_getR gf_RX12_87 dd_X12_pointsTo_34 hx0 (by decide) ?_
          refine ev_iload_n dd_X12_pointsTo_37 3 rfl ?_
          refine ev_iald dd_X12_pointsTo_38 ((zg_12_47 hx0).1) ((zg_12_47 hx0).2) ?_
          refine ev_callVI (As := [.int x1, .int (M (zgr x0 47) (zix x4)), .int (M (zgr x0 47) (zix x3))]) cl_RX12_400 (ct_X12_likes l hl G x0 hx0 x1 (M (zgr x0 47) (zix x4)) (M (zgr x0 47) (zix x3)) M) dd_X12_pointsTo_39 hx0 (by decide) (Nat.le_of_ble_eq_true rfl) (Nat.le_of_ble_eq_true rfl) rfl rfl (fun r1 M1 => ?_)
          refine ev_if_eq 48 dd_X12_pointsTo_42 (by decide) ?_ ?_
          · exact hk1 _ _
          · refine ev_lv (lv' := [(0, .ref (G.2.1 + x0)), (1, .int x1), (2, .int x2), (4, .int x4)]) [0, 1, 2, 4] rfl ?_
            refine ev_iload dd_X12_pointsTo_45 3 rfl ?_
            refine ev_istore_n (i := 3) (lv' := [(0, .ref (G.2.1 + x0)), (1, .int x1), (2, .int x2), (3, .int x4), (4, .int x4)]) [1, 2, 3, 0, 4] dd_X12_pointsTo_47 rfl (by decide) rfl ?_
            exact hk1 _ _
set_option maxHeartbeats 1000000 in
set_option maxRecDepth 20000 in
theorem ct_X12_pointsTo (l : Launch) (hl : l.stackTraces = false) (G : zG) (t : Nat) (ht : zsh t = 12) (a1 : Int32) (a2 : Int32) (M : zM) : zMt l G Y_X12_pointsTo 3 [.ref (G.2.1 + t), .int a1, .int a2] M (F_X12_pointsTo t a1 a2 M) := by
  refine zMt_of (by decide +kernel) (Nat.le_of_ble_eq_true rfl) ?_
  show zEv l G Y_X12_pointsTo 3 0 0 [(0, .ref (G.2.1 + t)), (1, .int a1), (2, .int a2)] [] M (F_X12_pointsTo_L5 t a1 a2 (fun (y1 : Int32) (M3 : zM) => zI y1 M3) zN a1 0 M)
  refine ev_iload_n dd_X12_pointsTo_0 1 rfl ?_
  refine ev_istore_n (i := 3) (lv' := [(0, .ref (G.2.1 + t)), (1, .int a1), (2, .int a2), (3, .int a1)]) [1, 2, 3, 0] dd_X12_pointsTo_1 rfl (by decide) rfl ?_
  refine ev_iconst (v := 0) dd_X12_pointsTo_2 (by decide) ?_
  refine ev_istore (i := 4) (lv' := [(0, .ref (G.2.1 + t)), (1, .int a1), (2, .int a2), (3, .int a1), (4, .int 0)]) [1, 2, 3, 4, 0] dd_X12_pointsTo_3 (by decide) rfl ?_
  refine ct_X12_pointsTo_L5 l hl G t ht a1 a2 _ (fun y1 M3 => ?_) zN _ _ _
  refine ev_iload_n dd_X12_pointsTo_54 0 rfl ?_
  refine ev_lv (lv' := []) [] rfl ?_
  exact ev_iret dd_X12_pointsTo_55 rfl (Nat.le_of_ble_eq_true rfl) rfl
/-! X12_prefers -/
theorem dd_X12_prefers_0 : decode Y_X12_prefers.2.1 0 = .ok (.aload_n 0, 1) := by decide +kernel
theorem dd_X12_prefers_1 : decode Y_X12_prefers.2.1 1 = .ok (.iconst 0, 1) := by decide +kernel
theorem dd_X12_prefers_2 : decode Y_X12_prefers.2.1 2 = .ok (.putfield 153, 3) := by decide +kernel
theorem dd_X12_prefers_5 : decode Y_X12_prefers.2.1 5 = .ok (.aload_n 0, 1) := by decide +kernel
theorem dd_X12_prefers_6 : decode Y_X12_prefers.2.1 6 = .ok (.iload_n 1, 1) := by decide +kernel
theorem dd_X12_prefers_7 : decode Y_X12_prefers.2.1 7 = .ok (.invokevirtual 346, 3) := by decide +kernel
theorem dd_X12_prefers_10 : decode Y_X12_prefers.2.1 10 = .ok (.ifCond .eq 33, 3) := by decide +kernel
theorem dd_X12_prefers_13 : decode Y_X12_prefers.2.1 13 = .ok (.aload_n 0, 1) := by decide +kernel
theorem dd_X12_prefers_14 : decode Y_X12_prefers.2.1 14 = .ok (.iload_n 2, 1) := by decide +kernel
theorem dd_X12_prefers_15 : decode Y_X12_prefers.2.1 15 = .ok (.invokevirtual 346, 3) := by decide +kernel
theorem dd_X12_prefers_18 : decode Y_X12_prefers.2.1 18 = .ok (.ifCond .eq 25, 3) := by decide +kernel
theorem dd_X12_prefers_21 : decode Y_X12_prefers.2.1 21 = .ok (.aload_n 0, 1) := by decide +kernel
theorem dd_X12_prefers_22 : decode Y_X12_prefers.2.1 22 = .ok (.iload_n 3, 1) := by decide +kernel
theorem dd_X12_prefers_23 : decode Y_X12_prefers.2.1 23 = .ok (.invokevirtual 346, 3) := by decide +kernel
theorem dd_X12_prefers_26 : decode Y_X12_prefers.2.1 26 = .ok (.ifCond .eq 17, 3) := by decide +kernel
theorem dd_X12_prefers_29 : decode Y_X12_prefers.2.1 29 = .ok (.aload_n 0, 1) := by decide +kernel
theorem dd_X12_prefers_30 : decode Y_X12_prefers.2.1 30 = .ok (.iload_n 1, 1) := by decide +kernel
theorem dd_X12_prefers_31 : decode Y_X12_prefers.2.1 31 = .ok (.iload_n 2, 1) := by decide +kernel
theorem dd_X12_prefers_32 : decode Y_X12_prefers.2.1 32 = .ok (.iload_n 3, 1) := by decide +kernel
theorem dd_X12_prefers_33 : decode Y_X12_prefers.2.1 33 = .ok (.invokevirtual 400, 3) := by decide +kernel
theorem dd_X12_prefers_36 : decode Y_X12_prefers.2.1 36 = .ok (.ifCond .eq 7, 3) := by decide +kernel
theorem dd_X12_prefers_39 : decode Y_X12_prefers.2.1 39 = .ok (.iconst 1, 1) := by decide +kernel
theorem dd_X12_prefers_40 : decode Y_X12_prefers.2.1 40 = .ok (.goto 4, 3) := by decide +kernel
theorem dd_X12_prefers_43 : decode Y_X12_prefers.2.1 43 = .ok (.iconst 0, 1) := by decide +kernel
theorem dd_X12_prefers_44 : decode Y_X12_prefers.2.1 44 = .ok (.ireturn, 1) := by decide +kernel
def F_X12_prefers (t : Nat) (a1 : Int32) (a2 : Int32) (a3 : Int32) (M : zM) : zO := zst (zup M t 0 0) (fun M1 => zbI (F_X12_isOne t a1 M1) (fun r1 M2 => zjo (fun (w1 : Int32) (M7 : zM) => zck (zbo w1) (zI w1 M7)) (fun (k1 : Int32 → zM → zO) => zjo (fun  (M6 : zM) => k1 0 M6) (fun (k2 : zM → zO) => zit (r1 = 0) (k2 M2) (zbI (F_X12_isOne t a2 M2) (fun r2 M3 => zit (r2 = 0) (k2 M3) (zbI (F_X12_isOne t a3 M3) (fun r3 M4 => zit (r3 = 0) (k2 M4) (zbI (F_X12_likes t a1 a2 a3 M4) (fun r4 M5 => zit (r4 = 0) (k2 M5) (k1 1 M5)))))))))))
set_option maxHeartbeats 1000000 in
set_option maxRecDepth 20000 in
theorem ct_X12_prefers (l : Launch) (hl : l.stackTraces = false) (G : zG) (t : Nat) (ht : zsh t = 12) (a1 : Int32) (a2 : Int32) (a3 : Int32) (M : zM) : zMt l G Y_X12_prefers 3 [.ref (G.2.1 + t), .int a1, .int a2, .int a3] M (F_X12_prefers t a1 a2 a3 M) := by
  refine zMt_of (by decide +kernel) (Nat.le_of_ble_eq_true rfl) ?_
  show zEv l G Y_X12_prefers 3 0 0 [(0, .ref (G.2.1 + t)), (1, .int a1), (2, .int a2), (3, .int a3)] [] M (zst (zup M t 0 0) (fun M1 => zbI (F_X12_isOne t a1 M1) (fun r1 M2 => zjo (fun (w1 : Int32) (M7 : zM) => zck (zbo w1) (zI w1 M7)) (fun (k1 : Int32 → zM → zO) => zjo (fun  (M6 : zM) => k1 0 M6) (fun (k2 : zM → zO) => zit (r1 = 0) (k2 M2) (zbI (F_X12_isOne t a2 M2) (fun r2 M3 => zit (r2 = 0) (k2 M3) (zbI (F_X12_isOne t a3 M3) (fun r3 M4 => zit (r3 = 0) (k2 M4) (zbI (F_X12_likes t a1 a2 a3 M4) (fun r4 M5 => zit (r4 = 0) (k2 M5) (k1 1 M5))))))))))))
  refine ev_aload_n dd_X12_prefers_0 0 rfl ?_
  refine ev_iconst (v := 0) dd_X12_prefers_1 (by decide) ?_
  refine ev_putI gw_RX12_153 dd_X12_prefers_2 ht (by decide) ?_
  refine ev_st (fun M1 => ?_)
  refine ev_aload_n dd_X12_prefers_5 0 rfl ?_
  refine ev_iload_n dd_X12_prefers_6 1 rfl ?_
  refine ev_callVI (As := [.int a1]) cl_RX12_346 (ct_X12_isOne l hl G t ht a1 M1) dd_X12_prefers_7 ht (by decide) (Nat.le_of_ble_eq_true rfl) (Nat.le_of_ble_eq_true rfl) rfl rfl (fun r1 M2 => ?_)
  refine ev_jo (fun (k1 : Int32 → zM → zO) => ∀ (w1 : Int32) (M7 : zM), zEv l G Y_X12_prefers 3 0 44 [] [.int w1] M7 (k1 w1 M7)) ?_ (fun k1 hk1 => ?_)
  · intro w1 M7
    exact ev_zret dd_X12_prefers_44 rfl (Nat.le_of_ble_eq_true rfl) rfl
  · refine ev_jo (fun (k2 : zM → zO) => ∀  (M6 : zM), zEv l G Y_X12_prefers 3 0 43 [] [] M6 (k2 M6)) ?_ (fun k2 hk2 => ?_)
    · intro M6
      refine ev_iconst (v := 0) dd_X12_prefers_43 (by decide) ?_
      exact hk1 _ _
    · refine ev_if_eq 43 dd_X12_prefers_10 (by decide) ?_ ?_
      · refine ev_lv (lv' := []) [] rfl ?_
        exact hk2 _
      · refine ev_aload_n dd_X12_prefers_13 0 rfl ?_
        refine ev_iload_n dd_X12_prefers_14 2 rfl ?_
        refine ev_callVI (As := [.int a2]) cl_RX12_346 (ct_X12_isOne l hl G t ht a2 M2) dd_X12_prefers_15 ht (by decide) (Nat.le_of_ble_eq_true rfl) (Nat.le_of_ble_eq_true rfl) rfl rfl (fun r2 M3 => ?_)
        refine ev_if_eq 43 dd_X12_prefers_18 (by decide) ?_ ?_
        · refine ev_lv (lv' := []) [] rfl ?_
          exact hk2 _
        · refine ev_aload_n dd_X12_prefers_21 0 rfl ?_
          refine ev_iload_n dd_X12_prefers_22 3 rfl ?_
          refine ev_callVI (As := [.int a3]) cl_RX12_346 (ct_X12_isOne l hl G t ht a3 M3) dd_X12_prefers_23 ht (by decide) (Nat.le_of_ble_eq_true rfl) (Nat.le_of_ble_eq_true rfl) rfl rfl (fun r3 M4 => ?_)
          refine ev_if_eq 43 dd_X12_prefers_26 (by decide) ?_ ?_
          · refine ev_lv (lv' := []) [] rfl ?_
            exact hk2 _
          · refine ev_aload_n dd_X12_prefers_29 0 rfl ?_
            refine ev_lv (lv' := [(1, .int a1), (2, .int a2), (3, .int a3)]) [1, 2, 3] rfl ?_
            refine ev_iload_n dd_X12_prefers_30 0 rfl ?_
            refine ev_lv (lv' := [(2, .int a2), (3, .int a3)]) [1, 2] rfl ?_
            refine ev_iload_n dd_X12_prefers_31 0 rfl ?_
            refine ev_lv (lv' := [(3, .int a3)]) [1] rfl ?_
            refine ev_iload_n dd_X12_prefers_32 0 rfl ?_
            refine ev_lv (lv' := []) [] rfl ?_
            refine ev_callVI (As := [.int a1, .int a2, .int a3]) cl_RX12_400 (ct_X12_likes l hl G t ht a1 a2 a3 M4) dd_X12_prefers_33 ht (by decide) (Nat.le_of_ble_eq_true rfl) (Nat.le_of_ble_eq_true rfl) rfl rfl (fun r4 M5 => ?_)
            refine ev_if_eq 43 dd_X12_prefers_36 (by decide) ?_ ?_
            · exact hk2 _
            · refine ev_iconst (v := 1) dd_X12_prefers_39 (by decide) ?_
              refine ev_goto 44 dd_X12_prefers_40 (by decide) ?_
              exact hk1 _ _
/-! X12_rankOf -/
theorem dd_X12_rankOf_0 : decode Y_X12_rankOf.2.1 0 = .ok (.iconst 0, 1) := by decide +kernel
theorem dd_X12_rankOf_1 : decode Y_X12_rankOf.2.1 1 = .ok (.istore_n 2, 1) := by decide +kernel
theorem dd_X12_rankOf_2 : decode Y_X12_rankOf.2.1 2 = .ok (.iconst 0, 1) := by decide +kernel
theorem dd_X12_rankOf_3 : decode Y_X12_rankOf.2.1 3 = .ok (.istore_n 3, 1) := by decide +kernel
theorem dd_X12_rankOf_4 : decode Y_X12_rankOf.2.1 4 = .ok (.iload_n 3, 1) := by decide +kernel
theorem dd_X12_rankOf_5 : decode Y_X12_rankOf.2.1 5 = .ok (.aload_n 0, 1) := by decide +kernel
theorem dd_X12_rankOf_6 : decode Y_X12_rankOf.2.1 6 = .ok (.getfield 319, 3) := by decide +kernel
theorem dd_X12_rankOf_9 : decode Y_X12_rankOf.2.1 9 = .ok (.if_icmp .ge 64, 3) := by decide +kernel
theorem dd_X12_rankOf_12 : decode Y_X12_rankOf.2.1 12 = .ok (.iconst 0, 1) := by decide +kernel
theorem dd_X12_rankOf_13 : decode Y_X12_rankOf.2.1 13 = .ok (.istore 4, 2) := by decide +kernel
theorem dd_X12_rankOf_15 : decode Y_X12_rankOf.2.1 15 = .ok (.iload_n 3, 1) := by decide +kernel
theorem dd_X12_rankOf_16 : decode Y_X12_rankOf.2.1 16 = .ok (.iconst 1, 1) := by decide +kernel
theorem dd_X12_rankOf_17 : decode Y_X12_rankOf.2.1 17 = .ok (.iadd, 1) := by decide +kernel
theorem dd_X12_rankOf_18 : decode Y_X12_rankOf.2.1 18 = .ok (.istore 5, 2) := by decide +kernel
theorem dd_X12_rankOf_20 : decode Y_X12_rankOf.2.1 20 = .ok (.iload 5, 2) := by decide +kernel
theorem dd_X12_rankOf_22 : decode Y_X12_rankOf.2.1 22 = .ok (.aload_n 0, 1) := by decide +kernel
theorem dd_X12_rankOf_23 : decode Y_X12_rankOf.2.1 23 = .ok (.getfield 319, 3) := by decide +kernel
theorem dd_X12_rankOf_26 : decode Y_X12_rankOf.2.1 26 = .ok (.if_icmp .ge 29, 3) := by decide +kernel
theorem dd_X12_rankOf_29 : decode Y_X12_rankOf.2.1 29 = .ok (.iload 4, 2) := by decide +kernel
theorem dd_X12_rankOf_31 : decode Y_X12_rankOf.2.1 31 = .ok (.aload_n 1, 1) := by decide +kernel
theorem dd_X12_rankOf_32 : decode Y_X12_rankOf.2.1 32 = .ok (.iload 5, 2) := by decide +kernel
theorem dd_X12_rankOf_34 : decode Y_X12_rankOf.2.1 34 = .ok (.iaload, 1) := by decide +kernel
theorem dd_X12_rankOf_35 : decode Y_X12_rankOf.2.1 35 = .ok (.aload_n 1, 1) := by decide +kernel
theorem dd_X12_rankOf_36 : decode Y_X12_rankOf.2.1 36 = .ok (.iload_n 3, 1) := by decide +kernel
theorem dd_X12_rankOf_37 : decode Y_X12_rankOf.2.1 37 = .ok (.iaload, 1) := by decide +kernel
theorem dd_X12_rankOf_38 : decode Y_X12_rankOf.2.1 38 = .ok (.if_icmp .ge 7, 3) := by decide +kernel
theorem dd_X12_rankOf_41 : decode Y_X12_rankOf.2.1 41 = .ok (.iconst 1, 1) := by decide +kernel
theorem dd_X12_rankOf_42 : decode Y_X12_rankOf.2.1 42 = .ok (.goto 4, 3) := by decide +kernel
theorem dd_X12_rankOf_45 : decode Y_X12_rankOf.2.1 45 = .ok (.iconst 0, 1) := by decide +kernel
theorem dd_X12_rankOf_46 : decode Y_X12_rankOf.2.1 46 = .ok (.iadd, 1) := by decide +kernel
theorem dd_X12_rankOf_47 : decode Y_X12_rankOf.2.1 47 = .ok (.istore 4, 2) := by decide +kernel
theorem dd_X12_rankOf_49 : decode Y_X12_rankOf.2.1 49 = .ok (.iinc 5 1, 3) := by decide +kernel
theorem dd_X12_rankOf_52 : decode Y_X12_rankOf.2.1 52 = .ok (.goto (-32), 3) := by decide +kernel
theorem dd_X12_rankOf_55 : decode Y_X12_rankOf.2.1 55 = .ok (.iload_n 2, 1) := by decide +kernel
theorem dd_X12_rankOf_56 : decode Y_X12_rankOf.2.1 56 = .ok (.aload_n 0, 1) := by decide +kernel
theorem dd_X12_rankOf_57 : decode Y_X12_rankOf.2.1 57 = .ok (.getfield 319, 3) := by decide +kernel
theorem dd_X12_rankOf_60 : decode Y_X12_rankOf.2.1 60 = .ok (.iload_n 3, 1) := by decide +kernel
theorem dd_X12_rankOf_61 : decode Y_X12_rankOf.2.1 61 = .ok (.isub, 1) := by decide +kernel
theorem dd_X12_rankOf_62 : decode Y_X12_rankOf.2.1 62 = .ok (.imul, 1) := by decide +kernel
theorem dd_X12_rankOf_63 : decode Y_X12_rankOf.2.1 63 = .ok (.iload 4, 2) := by decide +kernel
theorem dd_X12_rankOf_65 : decode Y_X12_rankOf.2.1 65 = .ok (.iadd, 1) := by decide +kernel
theorem dd_X12_rankOf_66 : decode Y_X12_rankOf.2.1 66 = .ok (.istore_n 2, 1) := by decide +kernel
theorem dd_X12_rankOf_67 : decode Y_X12_rankOf.2.1 67 = .ok (.iinc 3 1, 3) := by decide +kernel
theorem dd_X12_rankOf_70 : decode Y_X12_rankOf.2.1 70 = .ok (.goto (-66), 3) := by decide +kernel
theorem dd_X12_rankOf_73 : decode Y_X12_rankOf.2.1 73 = .ok (.iload_n 2, 1) := by decide +kernel
theorem dd_X12_rankOf_74 : decode Y_X12_rankOf.2.1 74 = .ok (.ireturn, 1) := by decide +kernel
def F_X12_rankOf_L20 (x0 : Nat) (x1 : Nat) (x2 : Int32) (x3 : Int32) (K55 : Int32 → zM → zO) : Nat → Int32 → Int32 → zM → zO
  | 0, _, _, _ => none
  | n + 1, x4, x5, M => zit ((M x0 1) ≤ x5) (K55 x4 M) (zck (zin x5 (zal x1)) (zck (zin x3 (zal x1)) (zjo (fun (w1 : Int32) (M1 : zM) => zlt (x4 + w1) (fun v2 => F_X12_rankOf_L20 x0 x1 x2 x3 K55 n v2 (x5 + 1) M1)) (fun (k1 : Int32 → zM → zO) => zit ((M x1 (zix x3)) ≤ (M x1 (zix x5))) (k1 0 M) (k1 1 M)))))
def F_X12_rankOf_L4 (x0 : Nat) (x1 : Nat) (K73 : Int32 → zM → zO) : Nat → Int32 → Int32 → zM → zO
  | 0, _, _, _ => none
  | n + 1, x2, x3, M => zit ((M x0 1) ≤ x3) (K73 x2 M) (zlt (x3 + 1) (fun v1 => F_X12_rankOf_L20 x0 x1 x2 x3 (fun (y1 : Int32) (M2 : zM) => zlt ((x2 * ((M2 x0 1) - x3)) + y1) (fun v3 => F_X12_rankOf_L4 x0 x1 K73 n v3 (x3 + 1) M2)) zN 0 v1 M))
def F_X12_rankOf (t : Nat) (a1 : Nat) (M : zM) : zO := F_X12_rankOf_L4 t a1 (fun (y2 : Int32) (M3 : zM) => zI y2 M3) zN 0 0 M
set_option maxHeartbeats 1000000 in
set_option maxRecDepth 20000 in
theorem ct_X12_rankOf_L20 (l : Launch) (hl : l.stackTraces = false) (G : zG) (x0 : Nat) (hx0 : zsh x0 = 12) (x1 : Nat) (hx1 : zsh x1 = 20) (x2 : Int32) (x3 : Int32) (K55 : Int32 → zM → zO) (hK55 : ∀ (x4 : Int32) (M : zM), zEv l G Y_X12_rankOf 1 0 55 [(0, .ref (G.2.1 + x0)), (1, .ref (G.2.1 + x1)), (2, .int x2), (3, .int x3), (4, .int x4)] [] M (K55 x4 M)) : ∀ (n : Nat) (x4 : Int32) (x5 : Int32) (M : zM), zEv l G Y_X12_rankOf 1 0 20 [(0, .ref (G.2.1 + x0)), (1, .ref (G.2.1 + x1)), (2, .int x2), (3, .int x3), (4, .int x4), (5, .int x5)] [] M (F_X12_rankOf_L20 x0 x1 x2 x3 K55 n x4 x5 M) := by
  intro n
  induction n with
  | zero => intro x4 x5 M; exact ev_none
  | succ n ih =>
    intro x4 x5 M
    show zEv l G Y_X12_rankOf 1 0 20 [(0, .ref (G.2.1 + x0)), (1, .ref (G.2.1 + x1)), (2, .int x2), (3, .int x3), (4, .int x4), (5, .int x5)] [] M (zit ((M x0 1) ≤ x5) (K55 x4 M) (zck (zin x5 (zal x1)) (zck (zin x3 (zal x1)) (zjo (fun (w1 : Int32) (M1 : zM) => zlt (x4 + w1) (fun v2 => F_X12_rankOf_L20 x0 x1 x2 x3 K55 n v2 (x5 + 1) M1)) (fun (k1 : Int32 → zM → zO) => zit ((M x1 (zix x3)) ≤ (M x1 (zix x5))) (k1 0 M) (k1 1 M))))))
    refine ev_iload dd_X12_rankOf_20 5 rfl ?_
    refine ev_aload_n dd_X12_rankOf_22 0 rfl ?_
    refine ev_getI gf_RX12_319 dd_X12_rankOf_23 hx0 (by decide) ?_
    refine ev_icmp_ge 55 dd_X12_rankOf_26 (by decide) ?_ ?_
    · refine ev_lv (lv' := [(0, .ref (G.2.1 + x0)), (1, .ref (G.2.1 + x1)), (2, .int x2), (3, .int x3), (4, .int x4)]) [0, 1, 2, 3, 4] rfl ?_
      exact hK55 _ _
    · refine ev_iload dd_X12_rankOf_29 4 rfl ?_
      refine ev_lv (lv' := [(0, .ref (G.2.1 + x0)), (1, .ref (G.2.1 + x1)), (2, .int x2), (3, .int x3), (5, .int x5)]) [0, 1, 2, 3, 5] rfl ?_
      refine ev_aload_n dd_X12_rankOf_31 1 rfl ?_
      refine ev_iload dd_X12_rankOf_32 4 rfl ?_
      refine ev_iald dd_X12_rankOf_34 hx1 rfl ?_
      refine ev_aload_n dd_X12_rankOf_35 1 rfl ?_
      refine ev_iload_n dd_X12_rankOf_36 3 rfl ?_
      refine ev_iald dd_X12_rankOf_37 hx1 rfl ?_
      refine ev_jo (fun (k1 : Int32 → zM → zO) => ∀ (w1 : Int32) (M1 : zM), zEv l G Y_X12_rankOf 1 0 46 [(0, .ref (G.2.1 + x0)), (1, .ref (G.2.1 + x1)), (2, .int x2), (3, .int x3), (5, .int x5)] [.int w1, .int x4] M1 (k1 w1 M1)) ?_ (fun k1 hk1 => ?_)
      · intro w1 M1
        refine ev_iadd dd_X12_rankOf_46 ?_
        refine ev_topi (fun v2 => ?_)
        refine ev_istore (i := 4) (lv' := [(0, .ref (G.2.1 + x0)), (1, .ref (G.2.1 + x1)), (2, .int x2), (3, .int x3), (4, .int v2), (5, .int x5)]) [1, 2, 3, 4, 0, 5] dd_X12_rankOf_47 (by decide) rfl ?_
        refine ev_iinc (j := 5) (v := 1) (lv' := [(0, .ref (G.2.1 + x0)), (1, .ref (G.2.1 + x1)), (2, .int x2), (3, .int x3), (4, .int v2), (5, .int (x5 + 1))]) [1, 2, 3, 4, 5, 0] dd_X12_rankOf_49 rfl (by decide) (by decide) rfl ?_
        refine ev_goto 20 dd_X12_rankOf_52 (by decide) ?_
        exact ih _ _ _
      · refine ev_icmp_ge 45 dd_X12_rankOf_38 (by decide) ?_ ?_
        · refine ev_iconst (v := 0) dd_X12_rankOf_45 (by decide) ?_
          exact hk1 _ _
        · refine ev_iconst (v := 1) dd_X12_rankOf_41 (by decide) ?_
          refine ev_goto 46 dd_X12_rankOf_42 (by decide) ?_
          exact hk1 _ _
set_option maxHeartbeats 1000000 in
set_option maxRecDepth 20000 in
theorem ct_X12_rankOf_L4 (l : Launch) (hl : l.stackTraces = false) (G : zG) (x0 : Nat) (hx0 : zsh x0 = 12) (x1 : Nat) (hx1 : zsh x1 = 20) (K73 : Int32 → zM → zO) (hK73 : ∀ (x2 : Int32) (M : zM), zEv l G Y_X12_rankOf 1 0 73 [(2, .int x2)] [] M (K73 x2 M)) : ∀ (n : Nat) (x2 : Int32) (x3 : Int32) (M : zM), zEv l G Y_X12_rankOf 1 0 4 [(0, .ref (G.2.1 + x0)), (1, .ref (G.2.1 + x1)), (2, .int x2), (3, .int x3)] [] M (F_X12_rankOf_L4 x0 x1 K73 n x2 x3 M) := by
  intro n
  induction n with
  | zero => intro x2 x3 M; exact ev_none
  | succ n ih =>
    intro x2 x3 M
    show zEv l G Y_X12_rankOf 1 0 4 [(0, .ref (G.2.1 + x0)), (1, .ref (G.2.1 + x1)), (2, .int x2), (3, .int x3)] [] M (zit ((M x0 1) ≤ x3) (K73 x2 M) (zlt (x3 + 1) (fun v1 => F_X12_rankOf_L20 x0 x1 x2 x3 (fun (y1 : Int32) (M2 : zM) => zlt ((x2 * ((M2 x0 1) - x3)) + y1) (fun v3 => F_X12_rankOf_L4 x0 x1 K73 n v3 (x3 + 1) M2)) zN 0 v1 M)))
    refine ev_iload_n dd_X12_rankOf_4 3 rfl ?_
    refine ev_aload_n dd_X12_rankOf_5 0 rfl ?_
    refine ev_getI gf_RX12_319 dd_X12_rankOf_6 hx0 (by decide) ?_
    refine ev_icmp_ge 73 dd_X12_rankOf_9 (by decide) ?_ ?_
    · refine ev_lv (lv' := [(2, .int x2)]) [2] rfl ?_
      exact hK73 _ _
    · refine ev_iconst (v := 0) dd_X12_rankOf_12 (by decide) ?_
      refine ev_istore (i := 4) (lv' := [(0, .ref (G.2.1 + x0)), (1, .ref (G.2.1 + x1)), (2, .int x2), (3, .int x3), (4, .int 0)]) [1, 2, 3, 4, 0] dd_X12_rankOf_13 (by decide) rfl ?_
      refine ev_iload_n dd_X12_rankOf_15 3 rfl ?_
      refine ev_iconst (v := 1) dd_X12_rankOf_16 (by decide) ?_
      refine ev_iadd dd_X12_rankOf_17 ?_
      refine ev_topi (fun v1 => ?_)
      refine ev_istore (i := 5) (lv' := [(0, .ref (G.2.1 + x0)), (1, .ref (G.2.1 + x1)), (2, .int x2), (3, .int x3), (4, .int 0), (5, .int v1)]) [1, 2, 3, 4, 5, 0] dd_X12_rankOf_18 (by decide) rfl ?_
      refine ct_X12_rankOf_L20 l hl G x0 hx0 x1 hx1 x2 x3 _ (fun y1 M2 => ?_) zN _ _ _
      refine ev_iload_n dd_X12_rankOf_55 2 rfl ?_
      refine ev_lv (lv' := [(0, .ref (G.2.1 + x0)), (1, .ref (G.2.1 + x1)), (3, .int x3), (4, .int y1)]) [0, 1, 3, 4] rfl ?_
      refine ev_aload_n dd_X12_rankOf_56 0 rfl ?_
      refine ev_getI gf_RX12_319 dd_X12_rankOf_57 hx0 (by decide) ?_
      refine ev_iload_n dd_X12_rankOf_60 2 rfl ?_
      refine ev_isub dd_X12_rankOf_61 ?_
      refine ev_imul dd_X12_rankOf_62 ?_
      refine ev_iload dd_X12_rankOf_63 3 rfl ?_
      refine ev_lv (lv' := [(0, .ref (G.2.1 + x0)), (1, .ref (G.2.1 + x1)), (3, .int x3)]) [0, 1, 2] rfl ?_
      refine ev_iadd dd_X12_rankOf_65 ?_
      refine ev_topi (fun v3 => ?_)
      refine ev_istore_n (i := 2) (lv' := [(0, .ref (G.2.1 + x0)), (1, .ref (G.2.1 + x1)), (2, .int v3), (3, .int x3)]) [1, 2, 0, 3] dd_X12_rankOf_66 rfl (by decide) rfl ?_
      refine ev_iinc (j := 3) (v := 1) (lv' := [(0, .ref (G.2.1 + x0)), (1, .ref (G.2.1 + x1)), (2, .int v3), (3, .int (x3 + 1))]) [1, 2, 3, 0] dd_X12_rankOf_67 rfl (by decide) (by decide) rfl ?_
      refine ev_goto 4 dd_X12_rankOf_70 (by decide) ?_
      exact ih _ _ _
set_option maxHeartbeats 1000000 in
set_option maxRecDepth 20000 in
theorem ct_X12_rankOf (l : Launch) (hl : l.stackTraces = false) (G : zG) (t : Nat) (ht : zsh t = 12) (a1 : Nat) (ha1 : zsh a1 = 20) (M : zM) : zMt l G Y_X12_rankOf 1 [.ref (G.2.1 + t), .ref (G.2.1 + a1)] M (F_X12_rankOf t a1 M) := by
  refine zMt_of (by decide +kernel) (Nat.le_of_ble_eq_true rfl) ?_
  show zEv l G Y_X12_rankOf 1 0 0 [(0, .ref (G.2.1 + t)), (1, .ref (G.2.1 + a1))] [] M (F_X12_rankOf_L4 t a1 (fun (y2 : Int32) (M3 : zM) => zI y2 M3) zN 0 0 M)
  refine ev_iconst (v := 0) dd_X12_rankOf_0 (by decide) ?_
  refine ev_istore_n (i := 2) (lv' := [(0, .ref (G.2.1 + t)), (1, .ref (G.2.1 + a1)), (2, .int 0)]) [1, 2, 0] dd_X12_rankOf_1 rfl (by decide) rfl ?_
  refine ev_iconst (v := 0) dd_X12_rankOf_2 (by decide) ?_
  refine ev_istore_n (i := 3) (lv' := [(0, .ref (G.2.1 + t)), (1, .ref (G.2.1 + a1)), (2, .int 0), (3, .int 0)]) [1, 2, 3, 0] dd_X12_rankOf_3 rfl (by decide) rfl ?_
  refine ct_X12_rankOf_L4 l hl G t ht a1 ha1 _ (fun y2 M3 => ?_) zN _ _ _
  refine ev_iload_n dd_X12_rankOf_73 0 rfl ?_
  refine ev_lv (lv' := []) [] rfl ?_
  exact ev_iret dd_X12_rankOf_74 rfl (Nat.le_of_ble_eq_true rfl) rfl
/-! X12_refuses -/
theorem dd_X12_refuses_0 : decode Y_X12_refuses.2.1 0 = .ok (.aload_n 0, 1) := by decide +kernel
theorem dd_X12_refuses_1 : decode Y_X12_refuses.2.1 1 = .ok (.getfield 50, 3) := by decide +kernel
theorem dd_X12_refuses_4 : decode Y_X12_refuses.2.1 4 = .ok (.iload_n 1, 1) := by decide +kernel
theorem dd_X12_refuses_5 : decode Y_X12_refuses.2.1 5 = .ok (.dup2, 1) := by decide +kernel
theorem dd_X12_refuses_6 : decode Y_X12_refuses.2.1 6 = .ok (.iaload, 1) := by decide +kernel
theorem dd_X12_refuses_7 : decode Y_X12_refuses.2.1 7 = .ok (.iconst 1, 1) := by decide +kernel
theorem dd_X12_refuses_8 : decode Y_X12_refuses.2.1 8 = .ok (.iadd, 1) := by decide +kernel
theorem dd_X12_refuses_9 : decode Y_X12_refuses.2.1 9 = .ok (.iastore, 1) := by decide +kernel
theorem dd_X12_refuses_10 : decode Y_X12_refuses.2.1 10 = .ok (.iload_n 2, 1) := by decide +kernel
theorem dd_X12_refuses_11 : decode Y_X12_refuses.2.1 11 = .ok (.ireturn, 1) := by decide +kernel
def F_X12_refuses (t : Nat) (a1 : Int32) (a2 : Int32) (M : zM) : zO := zck (zin a1 3) (zck (zin a1 3) (zst (zup M (zgr t 18) (zix a1) ((M (zgr t 18) (zix a1)) + 1)) (fun M1 => zI a2 M1)))
set_option maxHeartbeats 1000000 in
set_option maxRecDepth 20000 in
theorem ct_X12_refuses (l : Launch) (hl : l.stackTraces = false) (G : zG) (t : Nat) (ht : zsh t = 12) (a1 : Int32) (a2 : Int32) (M : zM) : zMt l G Y_X12_refuses 1 [.ref (G.2.1 + t), .int a1, .int a2] M (F_X12_refuses t a1 a2 M) := by
  refine zMt_of (by decide +kernel) (Nat.le_of_ble_eq_true rfl) ?_
  show zEv l G Y_X12_refuses 1 0 0 [(0, .ref (G.2.1 + t)), (1, .int a1), (2, .int a2)] [] M (zck (zin a1 3) (zck (zin a1 3) (zst (zup M (zgr t 18) (zix a1) ((M (zgr t 18) (zix a1)) + 1)) (fun M1 => zI a2 M1))))
  refine ev_aload_n dd_X12_refuses_0 0 rfl ?_
  refine ev_lv (lv' := [(1, .int a1), (2, .int a2)]) [1, 2] rfl ?_
  refine ev_getR gf_RX12_50 dd_X12_refuses_1 ht (by decide) ?_
  refine ev_iload_n dd_X12_refuses_4 0 rfl ?_
  refine ev_lv (lv' := [(2, .int a2)]) [1] rfl ?_
  refine ev_dup2 dd_X12_refuses_5 rfl rfl ?_
  refine ev_iald dd_X12_refuses_6 ((zg_12_18 ht).1) ((zg_12_18 ht).2) ?_
  refine ev_iconst (v := 1) dd_X12_refuses_7 (by decide) ?_
  refine ev_iadd dd_X12_refuses_8 ?_
  refine ev_iast dd_X12_refuses_9 ((zg_12_18 ht).1) ((zg_12_18 ht).2) ?_
  refine ev_st (fun M1 => ?_)
  refine ev_iload_n dd_X12_refuses_10 0 rfl ?_
  refine ev_lv (lv' := []) [] rfl ?_
  exact ev_iret dd_X12_refuses_11 rfl (Nat.le_of_ble_eq_true rfl) rfl
