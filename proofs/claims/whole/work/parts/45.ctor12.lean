theorem dX12_init_0 : decode cX12_init 0 = .ok (.aload_n 0, 1) := by decide +kernel
theorem dX12_init_1 : decode cX12_init 1 = .ok (.invokespecial 18, 3) := by decide +kernel
theorem dX12_init_4 : decode cX12_init 4 = .ok (.aload_n 0, 1) := by decide +kernel
theorem dX12_init_5 : decode cX12_init 5 = .ok (.sipush 1000, 3) := by decide +kernel
theorem dX12_init_8 : decode cX12_init 8 = .ok (.newarray .int, 2) := by decide +kernel
theorem dX12_init_10 : decode cX12_init 10 = .ok (.putfield 14, 3) := by decide +kernel
theorem dX12_init_13 : decode cX12_init 13 = .ok (.aload_n 0, 1) := by decide +kernel
theorem dX12_init_14 : decode cX12_init 14 = .ok (.sipush 1002, 3) := by decide +kernel
theorem dX12_init_17 : decode cX12_init 17 = .ok (.newarray .int, 2) := by decide +kernel
theorem dX12_init_19 : decode cX12_init 19 = .ok (.putfield 24, 3) := by decide +kernel
theorem dX12_init_22 : decode cX12_init 22 = .ok (.aload_n 0, 1) := by decide +kernel
theorem dX12_init_23 : decode cX12_init 23 = .ok (.sipush 1002, 3) := by decide +kernel
theorem dX12_init_26 : decode cX12_init 26 = .ok (.newarray .int, 2) := by decide +kernel
theorem dX12_init_28 : decode cX12_init 28 = .ok (.putfield 27, 3) := by decide +kernel
theorem dX12_init_31 : decode cX12_init 31 = .ok (.aload_n 0, 1) := by decide +kernel
theorem dX12_init_32 : decode cX12_init 32 = .ok (.sipush 1002, 3) := by decide +kernel
theorem dX12_init_35 : decode cX12_init 35 = .ok (.newarray .long, 2) := by decide +kernel
theorem dX12_init_37 : decode cX12_init 37 = .ok (.putfield 30, 3) := by decide +kernel
theorem dX12_init_40 : decode cX12_init 40 = .ok (.aload_n 0, 1) := by decide +kernel
theorem dX12_init_41 : decode cX12_init 41 = .ok (.bipush 23, 2) := by decide +kernel
theorem dX12_init_43 : decode cX12_init 43 = .ok (.newarray .long, 2) := by decide +kernel
theorem dX12_init_45 : decode cX12_init 45 = .ok (.dup, 1) := by decide +kernel
theorem dX12_init_46 : decode cX12_init 46 = .ok (.iconst 0, 1) := by decide +kernel
theorem dX12_init_47 : decode cX12_init 47 = .ok (.ldc2_w 34, 3) := by decide +kernel
theorem dX12_init_50 : decode cX12_init 50 = .ok (.lastore, 1) := by decide +kernel
theorem dX12_init_51 : decode cX12_init 51 = .ok (.dup, 1) := by decide +kernel
theorem dX12_init_52 : decode cX12_init 52 = .ok (.iconst 1, 1) := by decide +kernel
theorem dX12_init_53 : decode cX12_init 53 = .ok (.ldc2_w 36, 3) := by decide +kernel
theorem dX12_init_56 : decode cX12_init 56 = .ok (.lastore, 1) := by decide +kernel
theorem dX12_init_57 : decode cX12_init 57 = .ok (.dup, 1) := by decide +kernel
theorem dX12_init_58 : decode cX12_init 58 = .ok (.iconst 2, 1) := by decide +kernel
theorem dX12_init_59 : decode cX12_init 59 = .ok (.ldc2_w 38, 3) := by decide +kernel
theorem dX12_init_62 : decode cX12_init 62 = .ok (.lastore, 1) := by decide +kernel
theorem dX12_init_63 : decode cX12_init 63 = .ok (.dup, 1) := by decide +kernel
theorem dX12_init_64 : decode cX12_init 64 = .ok (.iconst 3, 1) := by decide +kernel
theorem dX12_init_65 : decode cX12_init 65 = .ok (.ldc2_w 40, 3) := by decide +kernel
theorem dX12_init_68 : decode cX12_init 68 = .ok (.lastore, 1) := by decide +kernel
theorem dX12_init_69 : decode cX12_init 69 = .ok (.dup, 1) := by decide +kernel
theorem dX12_init_70 : decode cX12_init 70 = .ok (.iconst 4, 1) := by decide +kernel
theorem dX12_init_71 : decode cX12_init 71 = .ok (.ldc2_w 42, 3) := by decide +kernel
theorem dX12_init_74 : decode cX12_init 74 = .ok (.lastore, 1) := by decide +kernel
theorem dX12_init_75 : decode cX12_init 75 = .ok (.dup, 1) := by decide +kernel
theorem dX12_init_76 : decode cX12_init 76 = .ok (.iconst 5, 1) := by decide +kernel
theorem dX12_init_77 : decode cX12_init 77 = .ok (.ldc2_w 44, 3) := by decide +kernel
theorem dX12_init_80 : decode cX12_init 80 = .ok (.lastore, 1) := by decide +kernel
theorem dX12_init_81 : decode cX12_init 81 = .ok (.dup, 1) := by decide +kernel
theorem dX12_init_82 : decode cX12_init 82 = .ok (.bipush 6, 2) := by decide +kernel
theorem dX12_init_84 : decode cX12_init 84 = .ok (.ldc2_w 46, 3) := by decide +kernel
theorem dX12_init_87 : decode cX12_init 87 = .ok (.lastore, 1) := by decide +kernel
theorem dX12_init_88 : decode cX12_init 88 = .ok (.dup, 1) := by decide +kernel
theorem dX12_init_89 : decode cX12_init 89 = .ok (.bipush 7, 2) := by decide +kernel
theorem dX12_init_91 : decode cX12_init 91 = .ok (.ldc2_w 48, 3) := by decide +kernel
theorem dX12_init_94 : decode cX12_init 94 = .ok (.lastore, 1) := by decide +kernel
theorem dX12_init_95 : decode cX12_init 95 = .ok (.dup, 1) := by decide +kernel
theorem dX12_init_96 : decode cX12_init 96 = .ok (.bipush 8, 2) := by decide +kernel
theorem dX12_init_98 : decode cX12_init 98 = .ok (.ldc2_w 50, 3) := by decide +kernel
theorem dX12_init_101 : decode cX12_init 101 = .ok (.lastore, 1) := by decide +kernel
theorem dX12_init_102 : decode cX12_init 102 = .ok (.dup, 1) := by decide +kernel
theorem dX12_init_103 : decode cX12_init 103 = .ok (.bipush 9, 2) := by decide +kernel
theorem dX12_init_105 : decode cX12_init 105 = .ok (.ldc2_w 52, 3) := by decide +kernel
theorem dX12_init_108 : decode cX12_init 108 = .ok (.lastore, 1) := by decide +kernel
theorem dX12_init_109 : decode cX12_init 109 = .ok (.dup, 1) := by decide +kernel
theorem dX12_init_110 : decode cX12_init 110 = .ok (.bipush 10, 2) := by decide +kernel
theorem dX12_init_112 : decode cX12_init 112 = .ok (.ldc2_w 54, 3) := by decide +kernel
theorem dX12_init_115 : decode cX12_init 115 = .ok (.lastore, 1) := by decide +kernel
theorem dX12_init_116 : decode cX12_init 116 = .ok (.dup, 1) := by decide +kernel
theorem dX12_init_117 : decode cX12_init 117 = .ok (.bipush 11, 2) := by decide +kernel
theorem dX12_init_119 : decode cX12_init 119 = .ok (.ldc2_w 56, 3) := by decide +kernel
theorem dX12_init_122 : decode cX12_init 122 = .ok (.lastore, 1) := by decide +kernel
theorem dX12_init_123 : decode cX12_init 123 = .ok (.dup, 1) := by decide +kernel
theorem dX12_init_124 : decode cX12_init 124 = .ok (.bipush 12, 2) := by decide +kernel
theorem dX12_init_126 : decode cX12_init 126 = .ok (.ldc2_w 58, 3) := by decide +kernel
theorem dX12_init_129 : decode cX12_init 129 = .ok (.lastore, 1) := by decide +kernel
theorem dX12_init_130 : decode cX12_init 130 = .ok (.dup, 1) := by decide +kernel
theorem dX12_init_131 : decode cX12_init 131 = .ok (.bipush 13, 2) := by decide +kernel
theorem dX12_init_133 : decode cX12_init 133 = .ok (.ldc2_w 60, 3) := by decide +kernel
theorem dX12_init_136 : decode cX12_init 136 = .ok (.lastore, 1) := by decide +kernel
theorem dX12_init_137 : decode cX12_init 137 = .ok (.dup, 1) := by decide +kernel
theorem dX12_init_138 : decode cX12_init 138 = .ok (.bipush 14, 2) := by decide +kernel
theorem dX12_init_140 : decode cX12_init 140 = .ok (.ldc2_w 62, 3) := by decide +kernel
theorem dX12_init_143 : decode cX12_init 143 = .ok (.lastore, 1) := by decide +kernel
theorem dX12_init_144 : decode cX12_init 144 = .ok (.dup, 1) := by decide +kernel
theorem dX12_init_145 : decode cX12_init 145 = .ok (.bipush 15, 2) := by decide +kernel
theorem dX12_init_147 : decode cX12_init 147 = .ok (.ldc2_w 64, 3) := by decide +kernel
theorem dX12_init_150 : decode cX12_init 150 = .ok (.lastore, 1) := by decide +kernel
theorem dX12_init_151 : decode cX12_init 151 = .ok (.dup, 1) := by decide +kernel
theorem dX12_init_152 : decode cX12_init 152 = .ok (.bipush 16, 2) := by decide +kernel
theorem dX12_init_154 : decode cX12_init 154 = .ok (.ldc2_w 66, 3) := by decide +kernel
theorem dX12_init_157 : decode cX12_init 157 = .ok (.lastore, 1) := by decide +kernel
theorem dX12_init_158 : decode cX12_init 158 = .ok (.dup, 1) := by decide +kernel
theorem dX12_init_159 : decode cX12_init 159 = .ok (.bipush 17, 2) := by decide +kernel
theorem dX12_init_161 : decode cX12_init 161 = .ok (.ldc2_w 68, 3) := by decide +kernel
theorem dX12_init_164 : decode cX12_init 164 = .ok (.lastore, 1) := by decide +kernel
theorem dX12_init_165 : decode cX12_init 165 = .ok (.dup, 1) := by decide +kernel
theorem dX12_init_166 : decode cX12_init 166 = .ok (.bipush 18, 2) := by decide +kernel
theorem dX12_init_168 : decode cX12_init 168 = .ok (.ldc2_w 70, 3) := by decide +kernel
theorem dX12_init_171 : decode cX12_init 171 = .ok (.lastore, 1) := by decide +kernel
theorem dX12_init_172 : decode cX12_init 172 = .ok (.dup, 1) := by decide +kernel
theorem dX12_init_173 : decode cX12_init 173 = .ok (.bipush 19, 2) := by decide +kernel
theorem dX12_init_175 : decode cX12_init 175 = .ok (.ldc2_w 72, 3) := by decide +kernel
theorem dX12_init_178 : decode cX12_init 178 = .ok (.lastore, 1) := by decide +kernel
theorem dX12_init_179 : decode cX12_init 179 = .ok (.dup, 1) := by decide +kernel
theorem dX12_init_180 : decode cX12_init 180 = .ok (.bipush 20, 2) := by decide +kernel
theorem dX12_init_182 : decode cX12_init 182 = .ok (.ldc2_w 74, 3) := by decide +kernel
theorem dX12_init_185 : decode cX12_init 185 = .ok (.lastore, 1) := by decide +kernel
theorem dX12_init_186 : decode cX12_init 186 = .ok (.dup, 1) := by decide +kernel
theorem dX12_init_187 : decode cX12_init 187 = .ok (.bipush 21, 2) := by decide +kernel
theorem dX12_init_189 : decode cX12_init 189 = .ok (.ldc2_w 76, 3) := by decide +kernel
theorem dX12_init_192 : decode cX12_init 192 = .ok (.lastore, 1) := by decide +kernel
theorem dX12_init_193 : decode cX12_init 193 = .ok (.dup, 1) := by decide +kernel
theorem dX12_init_194 : decode cX12_init 194 = .ok (.bipush 22, 2) := by decide +kernel
theorem dX12_init_196 : decode cX12_init 196 = .ok (.ldc2_w 78, 3) := by decide +kernel
theorem dX12_init_199 : decode cX12_init 199 = .ok (.lastore, 1) := by decide +kernel
theorem dX12_init_200 : decode cX12_init 200 = .ok (.putfield 80, 3) := by decide +kernel
theorem dX12_init_203 : decode cX12_init 203 = .ok (.aload_n 0, 1) := by decide +kernel
theorem dX12_init_204 : decode cX12_init 204 = .ok (.bipush 120, 2) := by decide +kernel
theorem dX12_init_206 : decode cX12_init 206 = .ok (.newarray .int, 2) := by decide +kernel
theorem dX12_init_208 : decode cX12_init 208 = .ok (.putfield 83, 3) := by decide +kernel
theorem dX12_init_211 : decode cX12_init 211 = .ok (.aload_n 0, 1) := by decide +kernel
theorem dX12_init_212 : decode cX12_init 212 = .ok (.sipush 2200, 3) := by decide +kernel
theorem dX12_init_215 : decode cX12_init 215 = .ok (.newarray .int, 2) := by decide +kernel
theorem dX12_init_217 : decode cX12_init 217 = .ok (.putfield 86, 3) := by decide +kernel
theorem dX12_init_220 : decode cX12_init 220 = .ok (.aload_n 0, 1) := by decide +kernel
theorem dX12_init_221 : decode cX12_init 221 = .ok (.sipush 2200, 3) := by decide +kernel
theorem dX12_init_224 : decode cX12_init 224 = .ok (.newarray .int, 2) := by decide +kernel
theorem dX12_init_226 : decode cX12_init 226 = .ok (.putfield 89, 3) := by decide +kernel
theorem dX12_init_229 : decode cX12_init 229 = .ok (.aload_n 0, 1) := by decide +kernel
theorem dX12_init_230 : decode cX12_init 230 = .ok (.bipush 12, 2) := by decide +kernel
theorem dX12_init_232 : decode cX12_init 232 = .ok (.newarray .long, 2) := by decide +kernel
theorem dX12_init_234 : decode cX12_init 234 = .ok (.putfield 92, 3) := by decide +kernel
theorem dX12_init_237 : decode cX12_init 237 = .ok (.aload_n 0, 1) := by decide +kernel
theorem dX12_init_238 : decode cX12_init 238 = .ok (.bipush 12, 2) := by decide +kernel
theorem dX12_init_240 : decode cX12_init 240 = .ok (.newarray .long, 2) := by decide +kernel
theorem dX12_init_242 : decode cX12_init 242 = .ok (.putfield 95, 3) := by decide +kernel
theorem dX12_init_245 : decode cX12_init 245 = .ok (.aload_n 0, 1) := by decide +kernel
theorem dX12_init_246 : decode cX12_init 246 = .ok (.bipush 12, 2) := by decide +kernel
theorem dX12_init_248 : decode cX12_init 248 = .ok (.newarray .int, 2) := by decide +kernel
theorem dX12_init_250 : decode cX12_init 250 = .ok (.putfield 98, 3) := by decide +kernel
theorem dX12_init_253 : decode cX12_init 253 = .ok (.aload_n 0, 1) := by decide +kernel
theorem dX12_init_254 : decode cX12_init 254 = .ok (.bipush 12, 2) := by decide +kernel
theorem dX12_init_256 : decode cX12_init 256 = .ok (.newarray .int, 2) := by decide +kernel
theorem dX12_init_258 : decode cX12_init 258 = .ok (.putfield 101, 3) := by decide +kernel
theorem dX12_init_261 : decode cX12_init 261 = .ok (.aload_n 0, 1) := by decide +kernel
theorem dX12_init_262 : decode cX12_init 262 = .ok (.sipush 250, 3) := by decide +kernel
theorem dX12_init_265 : decode cX12_init 265 = .ok (.newarray .int, 2) := by decide +kernel
theorem dX12_init_267 : decode cX12_init 267 = .ok (.putfield 104, 3) := by decide +kernel
theorem dX12_init_270 : decode cX12_init 270 = .ok (.aload_n 0, 1) := by decide +kernel
theorem dX12_init_271 : decode cX12_init 271 = .ok (.iconst 4, 1) := by decide +kernel
theorem dX12_init_272 : decode cX12_init 272 = .ok (.newarray .int, 2) := by decide +kernel
theorem dX12_init_274 : decode cX12_init 274 = .ok (.putfield 107, 3) := by decide +kernel
theorem dX12_init_277 : decode cX12_init 277 = .ok (.aload_n 0, 1) := by decide +kernel
theorem dX12_init_278 : decode cX12_init 278 = .ok (.sipush 1100, 3) := by decide +kernel
theorem dX12_init_281 : decode cX12_init 281 = .ok (.newarray .int, 2) := by decide +kernel
theorem dX12_init_283 : decode cX12_init 283 = .ok (.putfield 110, 3) := by decide +kernel
theorem dX12_init_286 : decode cX12_init 286 = .ok (.aload_n 0, 1) := by decide +kernel
theorem dX12_init_287 : decode cX12_init 287 = .ok (.sipush 1495, 3) := by decide +kernel
theorem dX12_init_290 : decode cX12_init 290 = .ok (.newarray .int, 2) := by decide +kernel
theorem dX12_init_292 : decode cX12_init 292 = .ok (.putfield 113, 3) := by decide +kernel
theorem dX12_init_295 : decode cX12_init 295 = .ok (.aload_n 0, 1) := by decide +kernel
theorem dX12_init_296 : decode cX12_init 296 = .ok (.iconst 4, 1) := by decide +kernel
theorem dX12_init_297 : decode cX12_init 297 = .ok (.newarray .boolean, 2) := by decide +kernel
theorem dX12_init_299 : decode cX12_init 299 = .ok (.putfield 116, 3) := by decide +kernel
theorem dX12_init_302 : decode cX12_init 302 = .ok (.aload_n 0, 1) := by decide +kernel
theorem dX12_init_303 : decode cX12_init 303 = .ok (.bipush 41, 2) := by decide +kernel
theorem dX12_init_305 : decode cX12_init 305 = .ok (.newarray .int, 2) := by decide +kernel
theorem dX12_init_307 : decode cX12_init 307 = .ok (.putfield 120, 3) := by decide +kernel
theorem dX12_init_310 : decode cX12_init 310 = .ok (.aload_n 0, 1) := by decide +kernel
theorem dX12_init_311 : decode cX12_init 311 = .ok (.iconst 3, 1) := by decide +kernel
theorem dX12_init_312 : decode cX12_init 312 = .ok (.newarray .int, 2) := by decide +kernel
theorem dX12_init_314 : decode cX12_init 314 = .ok (.putfield 123, 3) := by decide +kernel
theorem dX12_init_317 : decode cX12_init 317 = .ok (.aload_n 0, 1) := by decide +kernel
theorem dX12_init_318 : decode cX12_init 318 = .ok (.bipush 8, 2) := by decide +kernel
theorem dX12_init_320 : decode cX12_init 320 = .ok (.newarray .int, 2) := by decide +kernel
theorem dX12_init_322 : decode cX12_init 322 = .ok (.putfield 126, 3) := by decide +kernel
theorem dX12_init_325 : decode cX12_init 325 = .ok (.aload_n 0, 1) := by decide +kernel
theorem dX12_init_326 : decode cX12_init 326 = .ok (.sipush 310, 3) := by decide +kernel
theorem dX12_init_329 : decode cX12_init 329 = .ok (.newarray .int, 2) := by decide +kernel
theorem dX12_init_331 : decode cX12_init 331 = .ok (.putfield 129, 3) := by decide +kernel
theorem dX12_init_334 : decode cX12_init 334 = .ok (.aload_n 0, 1) := by decide +kernel
theorem dX12_init_335 : decode cX12_init 335 = .ok (.iconst 0, 1) := by decide +kernel
theorem dX12_init_336 : decode cX12_init 336 = .ok (.invokevirtual 132, 3) := by decide +kernel
theorem dX12_init_339 : decode cX12_init 339 = .ok (.aload_n 0, 1) := by decide +kernel
theorem dX12_init_340 : decode cX12_init 340 = .ok (.invokevirtual 136, 3) := by decide +kernel
theorem dX12_init_343 : decode cX12_init 343 = .ok (.return_, 1) := by decide +kernel
def f_X12_init (w : Nat) (sk : List mS) : Option (List mS × mM) := lenC sk 164 (lt (sk ++ [.inl (0, 1000, [])]) fun sk1 => pRc sk1 163 12 1 164 fun sk2 => lenC sk2 165 (lt (sk2 ++ [.inl (0, 1002, [])]) fun sk3 => pRc sk3 163 12 4 165 fun sk4 => lenC sk4 166 (lt (sk4 ++ [.inl (0, 1002, [])]) fun sk5 => pRc sk5 163 12 5 166 fun sk6 => lenC sk6 167 (lt (sk6 ++ [.inl (1, 1002, [])]) fun sk7 => pRc sk7 163 12 6 167 fun sk8 => lenC sk8 168 (lt (sk8 ++ [.inl (1, 23, [])]) fun sk9 => lSc sk9 168 23 (lt (wL mZ 168 (0 : Int32).toNatClampNeg 932857) fun M10 => lSc sk9 168 23 (lt (wL M10 168 (1 : Int32).toNatClampNeg 223720) fun M11 => lSc sk9 168 23 (lt (wL M11 168 (2 : Int32).toNatClampNeg 9636) fun M12 => lSc sk9 168 23 (lt (wL M12 168 (3 : Int32).toNatClampNeg 1119812451) fun M13 => lSc sk9 168 23 (lt (wL M13 168 (4 : Int32).toNatClampNeg 347) fun M14 => lSc sk9 168 23 (lt (wL M14 168 (5 : Int32).toNatClampNeg 204478) fun M15 => lSc sk9 168 23 (lt (wL M15 168 (6 : Int32).toNatClampNeg 1360911042) fun M16 => lSc sk9 168 23 (lt (wL M16 168 (7 : Int32).toNatClampNeg 5538) fun M17 => lSc sk9 168 23 (lt (wL M17 168 (8 : Int32).toNatClampNeg 1166843) fun M18 => lSc sk9 168 23 (lt (wL M18 168 (9 : Int32).toNatClampNeg 30596304) fun M19 => lSc sk9 168 23 (lt (wL M19 168 (10 : Int32).toNatClampNeg 43364708) fun M20 => lSc sk9 168 23 (lt (wL M20 168 (11 : Int32).toNatClampNeg 12029519) fun M21 => lSc sk9 168 23 (lt (wL M21 168 (12 : Int32).toNatClampNeg 20583) fun M22 => lSc sk9 168 23 (lt (wL M22 168 (13 : Int32).toNatClampNeg 823292) fun M23 => lSc sk9 168 23 (lt (wL M23 168 (14 : Int32).toNatClampNeg 7302) fun M24 => lSc sk9 168 23 (lt (wL M24 168 (15 : Int32).toNatClampNeg 620643) fun M25 => lSc sk9 168 23 (lt (wL M25 168 (16 : Int32).toNatClampNeg 19741) fun M26 => lSc sk9 168 23 (lt (wL M26 168 (17 : Int32).toNatClampNeg 1891) fun M27 => lSc sk9 168 23 (lt (wL M27 168 (18 : Int32).toNatClampNeg 573) fun M28 => lSc sk9 168 23 (lt (wL M28 168 (19 : Int32).toNatClampNeg 31692) fun M29 => lSc sk9 168 23 (lt (wL M29 168 (20 : Int32).toNatClampNeg 36781379) fun M30 => lSc sk9 168 23 (lt (wL M30 168 (21 : Int32).toNatClampNeg 36420992) fun M31 => lSc sk9 168 23 (lt (wL M31 168 (22 : Int32).toNatClampNeg 204726) fun M32 => pRc sk9 163 12 9 168 fun sk33 => lenC sk33 169 (lt (sk33 ++ [.inl (0, 120, [])]) fun sk34 => pRc sk34 163 12 10 169 fun sk35 => lenC sk35 170 (lt (sk35 ++ [.inl (0, 2200, [])]) fun sk36 => pRc sk36 163 12 11 170 fun sk37 => lenC sk37 171 (lt (sk37 ++ [.inl (0, 2200, [])]) fun sk38 => pRc sk38 163 12 12 171 fun sk39 => lenC sk39 172 (lt (sk39 ++ [.inl (1, 12, [])]) fun sk40 => pRc sk40 163 12 14 172 fun sk41 => lenC sk41 173 (lt (sk41 ++ [.inl (1, 12, [])]) fun sk42 => pRc sk42 163 12 15 173 fun sk43 => lenC sk43 174 (lt (sk43 ++ [.inl (0, 12, [])]) fun sk44 => pRc sk44 163 12 16 174 fun sk45 => lenC sk45 175 (lt (sk45 ++ [.inl (0, 12, [])]) fun sk46 => pRc sk46 163 12 17 175 fun sk47 => lenC sk47 176 (lt (sk47 ++ [.inl (0, 250, [])]) fun sk48 => pRc sk48 163 12 21 176 fun sk49 => lenC sk49 177 (lt (sk49 ++ [.inl (0, 4, [])]) fun sk50 => pRc sk50 163 12 22 177 fun sk51 => lenC sk51 178 (lt (sk51 ++ [.inl (0, 1100, [])]) fun sk52 => pRc sk52 163 12 23 178 fun sk53 => lenC sk53 179 (lt (sk53 ++ [.inl (0, 1495, [])]) fun sk54 => pRc sk54 163 12 24 179 fun sk55 => lenC sk55 180 (lt (sk55 ++ [.inl (2, 4, [])]) fun sk56 => pRc sk56 163 12 26 180 fun sk57 => lenC sk57 181 (lt (sk57 ++ [.inl (0, 41, [])]) fun sk58 => pRc sk58 163 12 27 181 fun sk59 => lenC sk59 182 (lt (sk59 ++ [.inl (0, 3, [])]) fun sk60 => pRc sk60 163 12 28 182 fun sk61 => lenC sk61 183 (lt (sk61 ++ [.inl (0, 8, [])]) fun sk62 => pRc sk62 163 12 29 183 fun sk63 => lenC sk63 184 (lt (sk63 ++ [.inl (0, 310, [])]) fun sk64 => pRc sk64 163 12 30 184 fun sk65 => skC sk65 (bV (f_X12_standsAsAlways w 163 0 M32) fun M66 => skC sk65 (bV (f_X12_begins w 163 M66) fun M67 => some (sk65, M67)))))))))))))))))))))))))))))))))))))))))))))))
set_option maxHeartbeats 4000000 in
set_option maxRecDepth 100000 in
theorem sC_X12_init {l : Launch} {G : mG} (w : Nat) (sk : List mS) : GoC true muX12_init (rmC 3 21 11812) 0 0 l G (nFin G 21 11812) (f_X12_init w sk) 0 [(0, .ref (gB G + 163))] [] sk mZ := by
  unfold f_X12_init
  have hz : ∀ n, n ≠ 168 → mZ0 mZ n := fun n _ => mz_mZ n
  refine goC_aload_n 0 1 dX12_init_0 rfl rfl ?_
  refine goC_objInit oiX12_18 oi2 oi3 4 dX12_init_1 rfl (Nat.le_of_ble_eq_true rfl) (Nat.le_of_ble_eq_true rfl) ?_
  refine goC_aload_n 0 5 dX12_init_4 rfl rfl ?_
  refine goC_sipush 1000 8 dX12_init_5 rfl (by decide) ?_
  refine goC_len (fun e => ?_)
  refine goC_newa (kd := 0) (atype := .int) (ty := .int) (.inl (0, 1000, [])) rfl rfl (by decide) ar0 (N := 1000) rfl (he_int (by decide) rfl) (hz _ (by rw [e]; decide)) (by decide) (by decide) (by decide) (Nat.le_of_ble_eq_true rfl) (Nat.le_of_ble_eq_true rfl) 10 dX12_init_8 rfl ?_
  rw [e]
  refine goC_nmS (fun sk1 => ?_)
  refine goC_putFN flX12_14 rfl rfl rfl (fun _ => rfl) (fun _ => rfl) 13 dX12_init_10 rfl (fun sk2 => ?_)
  refine goC_aload_n 0 14 dX12_init_13 rfl rfl ?_
  refine goC_sipush 1002 17 dX12_init_14 rfl (by decide) ?_
  refine goC_len (fun e => ?_)
  refine goC_newa (kd := 0) (atype := .int) (ty := .int) (.inl (0, 1002, [])) rfl rfl (by decide) ar0 (N := 1002) rfl (he_int (by decide) rfl) (hz _ (by rw [e]; decide)) (by decide) (by decide) (by decide) (Nat.le_of_ble_eq_true rfl) (Nat.le_of_ble_eq_true rfl) 19 dX12_init_17 rfl ?_
  rw [e]
  refine goC_nmS (fun sk3 => ?_)
  refine goC_putFN flX12_24 rfl rfl rfl (fun _ => rfl) (fun _ => rfl) 22 dX12_init_19 rfl (fun sk4 => ?_)
  refine goC_aload_n 0 23 dX12_init_22 rfl rfl ?_
  refine goC_sipush 1002 26 dX12_init_23 rfl (by decide) ?_
  refine goC_len (fun e => ?_)
  refine goC_newa (kd := 0) (atype := .int) (ty := .int) (.inl (0, 1002, [])) rfl rfl (by decide) ar0 (N := 1002) rfl (he_int (by decide) rfl) (hz _ (by rw [e]; decide)) (by decide) (by decide) (by decide) (Nat.le_of_ble_eq_true rfl) (Nat.le_of_ble_eq_true rfl) 28 dX12_init_26 rfl ?_
  rw [e]
  refine goC_nmS (fun sk5 => ?_)
  refine goC_putFN flX12_27 rfl rfl rfl (fun _ => rfl) (fun _ => rfl) 31 dX12_init_28 rfl (fun sk6 => ?_)
  refine goC_aload_n 0 32 dX12_init_31 rfl rfl ?_
  refine goC_sipush 1002 35 dX12_init_32 rfl (by decide) ?_
  refine goC_len (fun e => ?_)
  refine goC_newa (kd := 1) (atype := .long) (ty := .long) (.inl (1, 1002, [])) rfl rfl (by decide) ar1 (N := 1002) rfl he_long (hz _ (by rw [e]; decide)) (by decide) (by decide) (by decide) (Nat.le_of_ble_eq_true rfl) (Nat.le_of_ble_eq_true rfl) 37 dX12_init_35 rfl ?_
  rw [e]
  refine goC_nmS (fun sk7 => ?_)
  refine goC_putFN flX12_30 rfl rfl rfl (fun _ => rfl) (fun _ => rfl) 40 dX12_init_37 rfl (fun sk8 => ?_)
  refine goC_aload_n 0 41 dX12_init_40 rfl rfl ?_
  refine goC_bipush 23 43 dX12_init_41 rfl (by decide) ?_
  refine goC_len (fun e => ?_)
  refine goC_newa (kd := 1) (atype := .long) (ty := .long) (.inl (1, 23, [])) rfl rfl (by decide) ar1 (N := 23) rfl he_long (mz_mZ _) (by decide) (by decide) (by decide) (Nat.le_of_ble_eq_true rfl) (Nat.le_of_ble_eq_true rfl) 45 dX12_init_43 rfl ?_
  rw [e]
  refine goC_nmS (fun sk9 => ?_)
  refine goC_dup 46 dX12_init_45 rfl rfl ?_
  refine goC_iconst 0 47 dX12_init_46 rfl (by decide) ?_
  refine goC_ldc2 klX12_34 50 dX12_init_47 rfl ?_
  refine goC_last (by decide) 51 dX12_init_50 rfl ?_
  refine goC_nmMz (a := 168) (fun n hn => mz_step (hz n hn) hn) (fun M10 hz => ?_)
  refine goC_dup 52 dX12_init_51 rfl rfl ?_
  refine goC_iconst 1 53 dX12_init_52 rfl (by decide) ?_
  refine goC_ldc2 klX12_36 56 dX12_init_53 rfl ?_
  refine goC_last (by decide) 57 dX12_init_56 rfl ?_
  refine goC_nmMz (a := 168) (fun n hn => mz_step (hz n hn) hn) (fun M11 hz => ?_)
  refine goC_dup 58 dX12_init_57 rfl rfl ?_
  refine goC_iconst 2 59 dX12_init_58 rfl (by decide) ?_
  refine goC_ldc2 klX12_38 62 dX12_init_59 rfl ?_
  refine goC_last (by decide) 63 dX12_init_62 rfl ?_
  refine goC_nmMz (a := 168) (fun n hn => mz_step (hz n hn) hn) (fun M12 hz => ?_)
  refine goC_dup 64 dX12_init_63 rfl rfl ?_
  refine goC_iconst 3 65 dX12_init_64 rfl (by decide) ?_
  refine goC_ldc2 klX12_40 68 dX12_init_65 rfl ?_
  refine goC_last (by decide) 69 dX12_init_68 rfl ?_
  refine goC_nmMz (a := 168) (fun n hn => mz_step (hz n hn) hn) (fun M13 hz => ?_)
  refine goC_dup 70 dX12_init_69 rfl rfl ?_
  refine goC_iconst 4 71 dX12_init_70 rfl (by decide) ?_
  refine goC_ldc2 klX12_42 74 dX12_init_71 rfl ?_
  refine goC_last (by decide) 75 dX12_init_74 rfl ?_
  refine goC_nmMz (a := 168) (fun n hn => mz_step (hz n hn) hn) (fun M14 hz => ?_)
  refine goC_dup 76 dX12_init_75 rfl rfl ?_
  refine goC_iconst 5 77 dX12_init_76 rfl (by decide) ?_
  refine goC_ldc2 klX12_44 80 dX12_init_77 rfl ?_
  refine goC_last (by decide) 81 dX12_init_80 rfl ?_
  refine goC_nmMz (a := 168) (fun n hn => mz_step (hz n hn) hn) (fun M15 hz => ?_)
  refine goC_dup 82 dX12_init_81 rfl rfl ?_
  refine goC_bipush 6 84 dX12_init_82 rfl (by decide) ?_
  refine goC_ldc2 klX12_46 87 dX12_init_84 rfl ?_
  refine goC_last (by decide) 88 dX12_init_87 rfl ?_
  refine goC_nmMz (a := 168) (fun n hn => mz_step (hz n hn) hn) (fun M16 hz => ?_)
  refine goC_dup 89 dX12_init_88 rfl rfl ?_
  refine goC_bipush 7 91 dX12_init_89 rfl (by decide) ?_
  refine goC_ldc2 klX12_48 94 dX12_init_91 rfl ?_
  refine goC_last (by decide) 95 dX12_init_94 rfl ?_
  refine goC_nmMz (a := 168) (fun n hn => mz_step (hz n hn) hn) (fun M17 hz => ?_)
  refine goC_dup 96 dX12_init_95 rfl rfl ?_
  refine goC_bipush 8 98 dX12_init_96 rfl (by decide) ?_
  refine goC_ldc2 klX12_50 101 dX12_init_98 rfl ?_
  refine goC_last (by decide) 102 dX12_init_101 rfl ?_
  refine goC_nmMz (a := 168) (fun n hn => mz_step (hz n hn) hn) (fun M18 hz => ?_)
  refine goC_dup 103 dX12_init_102 rfl rfl ?_
  refine goC_bipush 9 105 dX12_init_103 rfl (by decide) ?_
  refine goC_ldc2 klX12_52 108 dX12_init_105 rfl ?_
  refine goC_last (by decide) 109 dX12_init_108 rfl ?_
  refine goC_nmMz (a := 168) (fun n hn => mz_step (hz n hn) hn) (fun M19 hz => ?_)
  refine goC_dup 110 dX12_init_109 rfl rfl ?_
  refine goC_bipush 10 112 dX12_init_110 rfl (by decide) ?_
  refine goC_ldc2 klX12_54 115 dX12_init_112 rfl ?_
  refine goC_last (by decide) 116 dX12_init_115 rfl ?_
  refine goC_nmMz (a := 168) (fun n hn => mz_step (hz n hn) hn) (fun M20 hz => ?_)
  refine goC_dup 117 dX12_init_116 rfl rfl ?_
  refine goC_bipush 11 119 dX12_init_117 rfl (by decide) ?_
  refine goC_ldc2 klX12_56 122 dX12_init_119 rfl ?_
  refine goC_last (by decide) 123 dX12_init_122 rfl ?_
  refine goC_nmMz (a := 168) (fun n hn => mz_step (hz n hn) hn) (fun M21 hz => ?_)
  refine goC_dup 124 dX12_init_123 rfl rfl ?_
  refine goC_bipush 12 126 dX12_init_124 rfl (by decide) ?_
  refine goC_ldc2 klX12_58 129 dX12_init_126 rfl ?_
  refine goC_last (by decide) 130 dX12_init_129 rfl ?_
  refine goC_nmMz (a := 168) (fun n hn => mz_step (hz n hn) hn) (fun M22 hz => ?_)
  refine goC_dup 131 dX12_init_130 rfl rfl ?_
  refine goC_bipush 13 133 dX12_init_131 rfl (by decide) ?_
  refine goC_ldc2 klX12_60 136 dX12_init_133 rfl ?_
  refine goC_last (by decide) 137 dX12_init_136 rfl ?_
  refine goC_nmMz (a := 168) (fun n hn => mz_step (hz n hn) hn) (fun M23 hz => ?_)
  refine goC_dup 138 dX12_init_137 rfl rfl ?_
  refine goC_bipush 14 140 dX12_init_138 rfl (by decide) ?_
  refine goC_ldc2 klX12_62 143 dX12_init_140 rfl ?_
  refine goC_last (by decide) 144 dX12_init_143 rfl ?_
  refine goC_nmMz (a := 168) (fun n hn => mz_step (hz n hn) hn) (fun M24 hz => ?_)
  refine goC_dup 145 dX12_init_144 rfl rfl ?_
  refine goC_bipush 15 147 dX12_init_145 rfl (by decide) ?_
  refine goC_ldc2 klX12_64 150 dX12_init_147 rfl ?_
  refine goC_last (by decide) 151 dX12_init_150 rfl ?_
  refine goC_nmMz (a := 168) (fun n hn => mz_step (hz n hn) hn) (fun M25 hz => ?_)
  refine goC_dup 152 dX12_init_151 rfl rfl ?_
  refine goC_bipush 16 154 dX12_init_152 rfl (by decide) ?_
  refine goC_ldc2 klX12_66 157 dX12_init_154 rfl ?_
  refine goC_last (by decide) 158 dX12_init_157 rfl ?_
  refine goC_nmMz (a := 168) (fun n hn => mz_step (hz n hn) hn) (fun M26 hz => ?_)
  refine goC_dup 159 dX12_init_158 rfl rfl ?_
  refine goC_bipush 17 161 dX12_init_159 rfl (by decide) ?_
  refine goC_ldc2 klX12_68 164 dX12_init_161 rfl ?_
  refine goC_last (by decide) 165 dX12_init_164 rfl ?_
  refine goC_nmMz (a := 168) (fun n hn => mz_step (hz n hn) hn) (fun M27 hz => ?_)
  refine goC_dup 166 dX12_init_165 rfl rfl ?_
  refine goC_bipush 18 168 dX12_init_166 rfl (by decide) ?_
  refine goC_ldc2 klX12_70 171 dX12_init_168 rfl ?_
  refine goC_last (by decide) 172 dX12_init_171 rfl ?_
  refine goC_nmMz (a := 168) (fun n hn => mz_step (hz n hn) hn) (fun M28 hz => ?_)
  refine goC_dup 173 dX12_init_172 rfl rfl ?_
  refine goC_bipush 19 175 dX12_init_173 rfl (by decide) ?_
  refine goC_ldc2 klX12_72 178 dX12_init_175 rfl ?_
  refine goC_last (by decide) 179 dX12_init_178 rfl ?_
  refine goC_nmMz (a := 168) (fun n hn => mz_step (hz n hn) hn) (fun M29 hz => ?_)
  refine goC_dup 180 dX12_init_179 rfl rfl ?_
  refine goC_bipush 20 182 dX12_init_180 rfl (by decide) ?_
  refine goC_ldc2 klX12_74 185 dX12_init_182 rfl ?_
  refine goC_last (by decide) 186 dX12_init_185 rfl ?_
  refine goC_nmMz (a := 168) (fun n hn => mz_step (hz n hn) hn) (fun M30 hz => ?_)
  refine goC_dup 187 dX12_init_186 rfl rfl ?_
  refine goC_bipush 21 189 dX12_init_187 rfl (by decide) ?_
  refine goC_ldc2 klX12_76 192 dX12_init_189 rfl ?_
  refine goC_last (by decide) 193 dX12_init_192 rfl ?_
  refine goC_nmMz (a := 168) (fun n hn => mz_step (hz n hn) hn) (fun M31 hz => ?_)
  refine goC_dup 194 dX12_init_193 rfl rfl ?_
  refine goC_bipush 22 196 dX12_init_194 rfl (by decide) ?_
  refine goC_ldc2 klX12_78 199 dX12_init_196 rfl ?_
  refine goC_last (by decide) 200 dX12_init_199 rfl ?_
  refine goC_nmMz (a := 168) (fun n hn => mz_step (hz n hn) hn) (fun M32 hz => ?_)
  refine goC_putFN flX12_80 rfl rfl rfl (fun _ => rfl) (fun _ => rfl) 203 dX12_init_200 rfl (fun sk33 => ?_)
  refine goC_aload_n 0 204 dX12_init_203 rfl rfl ?_
  refine goC_bipush 120 206 dX12_init_204 rfl (by decide) ?_
  refine goC_len (fun e => ?_)
  refine goC_newa (kd := 0) (atype := .int) (ty := .int) (.inl (0, 120, [])) rfl rfl (by decide) ar0 (N := 120) rfl (he_int (by decide) rfl) (hz _ (by rw [e]; decide)) (by decide) (by decide) (by decide) (Nat.le_of_ble_eq_true rfl) (Nat.le_of_ble_eq_true rfl) 208 dX12_init_206 rfl ?_
  rw [e]
  refine goC_nmS (fun sk34 => ?_)
  refine goC_putFN flX12_83 rfl rfl rfl (fun _ => rfl) (fun _ => rfl) 211 dX12_init_208 rfl (fun sk35 => ?_)
  refine goC_aload_n 0 212 dX12_init_211 rfl rfl ?_
  refine goC_sipush 2200 215 dX12_init_212 rfl (by decide) ?_
  refine goC_len (fun e => ?_)
  refine goC_newa (kd := 0) (atype := .int) (ty := .int) (.inl (0, 2200, [])) rfl rfl (by decide) ar0 (N := 2200) rfl (he_int (by decide) rfl) (hz _ (by rw [e]; decide)) (by decide) (by decide) (by decide) (Nat.le_of_ble_eq_true rfl) (Nat.le_of_ble_eq_true rfl) 217 dX12_init_215 rfl ?_
  rw [e]
  refine goC_nmS (fun sk36 => ?_)
  refine goC_putFN flX12_86 rfl rfl rfl (fun _ => rfl) (fun _ => rfl) 220 dX12_init_217 rfl (fun sk37 => ?_)
  refine goC_aload_n 0 221 dX12_init_220 rfl rfl ?_
  refine goC_sipush 2200 224 dX12_init_221 rfl (by decide) ?_
  refine goC_len (fun e => ?_)
  refine goC_newa (kd := 0) (atype := .int) (ty := .int) (.inl (0, 2200, [])) rfl rfl (by decide) ar0 (N := 2200) rfl (he_int (by decide) rfl) (hz _ (by rw [e]; decide)) (by decide) (by decide) (by decide) (Nat.le_of_ble_eq_true rfl) (Nat.le_of_ble_eq_true rfl) 226 dX12_init_224 rfl ?_
  rw [e]
  refine goC_nmS (fun sk38 => ?_)
  refine goC_putFN flX12_89 rfl rfl rfl (fun _ => rfl) (fun _ => rfl) 229 dX12_init_226 rfl (fun sk39 => ?_)
  refine goC_aload_n 0 230 dX12_init_229 rfl rfl ?_
  refine goC_bipush 12 232 dX12_init_230 rfl (by decide) ?_
  refine goC_len (fun e => ?_)
  refine goC_newa (kd := 1) (atype := .long) (ty := .long) (.inl (1, 12, [])) rfl rfl (by decide) ar1 (N := 12) rfl he_long (hz _ (by rw [e]; decide)) (by decide) (by decide) (by decide) (Nat.le_of_ble_eq_true rfl) (Nat.le_of_ble_eq_true rfl) 234 dX12_init_232 rfl ?_
  rw [e]
  refine goC_nmS (fun sk40 => ?_)
  refine goC_putFN flX12_92 rfl rfl rfl (fun _ => rfl) (fun _ => rfl) 237 dX12_init_234 rfl (fun sk41 => ?_)
  refine goC_aload_n 0 238 dX12_init_237 rfl rfl ?_
  refine goC_bipush 12 240 dX12_init_238 rfl (by decide) ?_
  refine goC_len (fun e => ?_)
  refine goC_newa (kd := 1) (atype := .long) (ty := .long) (.inl (1, 12, [])) rfl rfl (by decide) ar1 (N := 12) rfl he_long (hz _ (by rw [e]; decide)) (by decide) (by decide) (by decide) (Nat.le_of_ble_eq_true rfl) (Nat.le_of_ble_eq_true rfl) 242 dX12_init_240 rfl ?_
  rw [e]
  refine goC_nmS (fun sk42 => ?_)
  refine goC_putFN flX12_95 rfl rfl rfl (fun _ => rfl) (fun _ => rfl) 245 dX12_init_242 rfl (fun sk43 => ?_)
  refine goC_aload_n 0 246 dX12_init_245 rfl rfl ?_
  refine goC_bipush 12 248 dX12_init_246 rfl (by decide) ?_
  refine goC_len (fun e => ?_)
  refine goC_newa (kd := 0) (atype := .int) (ty := .int) (.inl (0, 12, [])) rfl rfl (by decide) ar0 (N := 12) rfl (he_int (by decide) rfl) (hz _ (by rw [e]; decide)) (by decide) (by decide) (by decide) (Nat.le_of_ble_eq_true rfl) (Nat.le_of_ble_eq_true rfl) 250 dX12_init_248 rfl ?_
  rw [e]
  refine goC_nmS (fun sk44 => ?_)
  refine goC_putFN flX12_98 rfl rfl rfl (fun _ => rfl) (fun _ => rfl) 253 dX12_init_250 rfl (fun sk45 => ?_)
  refine goC_aload_n 0 254 dX12_init_253 rfl rfl ?_
  refine goC_bipush 12 256 dX12_init_254 rfl (by decide) ?_
  refine goC_len (fun e => ?_)
  refine goC_newa (kd := 0) (atype := .int) (ty := .int) (.inl (0, 12, [])) rfl rfl (by decide) ar0 (N := 12) rfl (he_int (by decide) rfl) (hz _ (by rw [e]; decide)) (by decide) (by decide) (by decide) (Nat.le_of_ble_eq_true rfl) (Nat.le_of_ble_eq_true rfl) 258 dX12_init_256 rfl ?_
  rw [e]
  refine goC_nmS (fun sk46 => ?_)
  refine goC_putFN flX12_101 rfl rfl rfl (fun _ => rfl) (fun _ => rfl) 261 dX12_init_258 rfl (fun sk47 => ?_)
  refine goC_aload_n 0 262 dX12_init_261 rfl rfl ?_
  refine goC_sipush 250 265 dX12_init_262 rfl (by decide) ?_
  refine goC_len (fun e => ?_)
  refine goC_newa (kd := 0) (atype := .int) (ty := .int) (.inl (0, 250, [])) rfl rfl (by decide) ar0 (N := 250) rfl (he_int (by decide) rfl) (hz _ (by rw [e]; decide)) (by decide) (by decide) (by decide) (Nat.le_of_ble_eq_true rfl) (Nat.le_of_ble_eq_true rfl) 267 dX12_init_265 rfl ?_
  rw [e]
  refine goC_nmS (fun sk48 => ?_)
  refine goC_putFN flX12_104 rfl rfl rfl (fun _ => rfl) (fun _ => rfl) 270 dX12_init_267 rfl (fun sk49 => ?_)
  refine goC_aload_n 0 271 dX12_init_270 rfl rfl ?_
  refine goC_iconst 4 272 dX12_init_271 rfl (by decide) ?_
  refine goC_len (fun e => ?_)
  refine goC_newa (kd := 0) (atype := .int) (ty := .int) (.inl (0, 4, [])) rfl rfl (by decide) ar0 (N := 4) rfl (he_int (by decide) rfl) (hz _ (by rw [e]; decide)) (by decide) (by decide) (by decide) (Nat.le_of_ble_eq_true rfl) (Nat.le_of_ble_eq_true rfl) 274 dX12_init_272 rfl ?_
  rw [e]
  refine goC_nmS (fun sk50 => ?_)
  refine goC_putFN flX12_107 rfl rfl rfl (fun _ => rfl) (fun _ => rfl) 277 dX12_init_274 rfl (fun sk51 => ?_)
  refine goC_aload_n 0 278 dX12_init_277 rfl rfl ?_
  refine goC_sipush 1100 281 dX12_init_278 rfl (by decide) ?_
  refine goC_len (fun e => ?_)
  refine goC_newa (kd := 0) (atype := .int) (ty := .int) (.inl (0, 1100, [])) rfl rfl (by decide) ar0 (N := 1100) rfl (he_int (by decide) rfl) (hz _ (by rw [e]; decide)) (by decide) (by decide) (by decide) (Nat.le_of_ble_eq_true rfl) (Nat.le_of_ble_eq_true rfl) 283 dX12_init_281 rfl ?_
  rw [e]
  refine goC_nmS (fun sk52 => ?_)
  refine goC_putFN flX12_110 rfl rfl rfl (fun _ => rfl) (fun _ => rfl) 286 dX12_init_283 rfl (fun sk53 => ?_)
  refine goC_aload_n 0 287 dX12_init_286 rfl rfl ?_
  refine goC_sipush 1495 290 dX12_init_287 rfl (by decide) ?_
  refine goC_len (fun e => ?_)
  refine goC_newa (kd := 0) (atype := .int) (ty := .int) (.inl (0, 1495, [])) rfl rfl (by decide) ar0 (N := 1495) rfl (he_int (by decide) rfl) (hz _ (by rw [e]; decide)) (by decide) (by decide) (by decide) (Nat.le_of_ble_eq_true rfl) (Nat.le_of_ble_eq_true rfl) 292 dX12_init_290 rfl ?_
  rw [e]
  refine goC_nmS (fun sk54 => ?_)
  refine goC_putFN flX12_113 rfl rfl rfl (fun _ => rfl) (fun _ => rfl) 295 dX12_init_292 rfl (fun sk55 => ?_)
  refine goC_aload_n 0 296 dX12_init_295 rfl rfl ?_
  refine goC_iconst 4 297 dX12_init_296 rfl (by decide) ?_
  refine goC_len (fun e => ?_)
  refine goC_newa (kd := 2) (atype := .boolean) (ty := .boolean) (.inl (2, 4, [])) rfl rfl (by decide) ar2 (N := 4) rfl (he_int (by decide) rfl) (hz _ (by rw [e]; decide)) (by decide) (by decide) (by decide) (Nat.le_of_ble_eq_true rfl) (Nat.le_of_ble_eq_true rfl) 299 dX12_init_297 rfl ?_
  rw [e]
  refine goC_nmS (fun sk56 => ?_)
  refine goC_putFN flX12_116 rfl rfl rfl (fun _ => rfl) (fun _ => rfl) 302 dX12_init_299 rfl (fun sk57 => ?_)
  refine goC_aload_n 0 303 dX12_init_302 rfl rfl ?_
  refine goC_bipush 41 305 dX12_init_303 rfl (by decide) ?_
  refine goC_len (fun e => ?_)
  refine goC_newa (kd := 0) (atype := .int) (ty := .int) (.inl (0, 41, [])) rfl rfl (by decide) ar0 (N := 41) rfl (he_int (by decide) rfl) (hz _ (by rw [e]; decide)) (by decide) (by decide) (by decide) (Nat.le_of_ble_eq_true rfl) (Nat.le_of_ble_eq_true rfl) 307 dX12_init_305 rfl ?_
  rw [e]
  refine goC_nmS (fun sk58 => ?_)
  refine goC_putFN flX12_120 rfl rfl rfl (fun _ => rfl) (fun _ => rfl) 310 dX12_init_307 rfl (fun sk59 => ?_)
  refine goC_aload_n 0 311 dX12_init_310 rfl rfl ?_
  refine goC_iconst 3 312 dX12_init_311 rfl (by decide) ?_
  refine goC_len (fun e => ?_)
  refine goC_newa (kd := 0) (atype := .int) (ty := .int) (.inl (0, 3, [])) rfl rfl (by decide) ar0 (N := 3) rfl (he_int (by decide) rfl) (hz _ (by rw [e]; decide)) (by decide) (by decide) (by decide) (Nat.le_of_ble_eq_true rfl) (Nat.le_of_ble_eq_true rfl) 314 dX12_init_312 rfl ?_
  rw [e]
  refine goC_nmS (fun sk60 => ?_)
  refine goC_putFN flX12_123 rfl rfl rfl (fun _ => rfl) (fun _ => rfl) 317 dX12_init_314 rfl (fun sk61 => ?_)
  refine goC_aload_n 0 318 dX12_init_317 rfl rfl ?_
  refine goC_bipush 8 320 dX12_init_318 rfl (by decide) ?_
  refine goC_len (fun e => ?_)
  refine goC_newa (kd := 0) (atype := .int) (ty := .int) (.inl (0, 8, [])) rfl rfl (by decide) ar0 (N := 8) rfl (he_int (by decide) rfl) (hz _ (by rw [e]; decide)) (by decide) (by decide) (by decide) (Nat.le_of_ble_eq_true rfl) (Nat.le_of_ble_eq_true rfl) 322 dX12_init_320 rfl ?_
  rw [e]
  refine goC_nmS (fun sk62 => ?_)
  refine goC_putFN flX12_126 rfl rfl rfl (fun _ => rfl) (fun _ => rfl) 325 dX12_init_322 rfl (fun sk63 => ?_)
  refine goC_aload_n 0 326 dX12_init_325 rfl rfl ?_
  refine goC_sipush 310 329 dX12_init_326 rfl (by decide) ?_
  refine goC_len (fun e => ?_)
  refine goC_newa (kd := 0) (atype := .int) (ty := .int) (.inl (0, 310, [])) rfl rfl (by decide) ar0 (N := 310) rfl (he_int (by decide) rfl) (hz _ (by rw [e]; decide)) (by decide) (by decide) (by decide) (Nat.le_of_ble_eq_true rfl) (Nat.le_of_ble_eq_true rfl) 331 dX12_init_329 rfl ?_
  rw [e]
  refine goC_nmS (fun sk64 => ?_)
  refine goC_putFN flX12_129 rfl rfl rfl (fun _ => rfl) (fun _ => rfl) 334 dX12_init_331 rfl (fun sk65 => ?_)
  refine goC_aload_n 0 335 dX12_init_334 rfl rfl ?_
  refine goC_iconst 0 336 dX12_init_335 rfl (by decide) ?_
  refine goC_skC (fun e => ?_)
  refine goC_callV 0 (As := [.int 0]) (rest := []) (o := 163) (e ▸ skOK_F) clX12 cwX12_132 (m_X12_standsAsAlways w 163 isK163 0 M32) isK163 rfl 339 dX12_init_336 rfl ⟨Nat.le_of_ble_eq_true rfl, Nat.le_of_ble_eq_true rfl⟩ ⟨Nat.le_of_ble_eq_true rfl, Nat.le_of_ble_eq_true rfl⟩ (Nat.le_of_ble_eq_true rfl) (fun M66 => ?_)
  refine goC_aload_n 0 340 dX12_init_339 rfl rfl ?_
  refine goC_skC (fun e => ?_)
  refine goC_callV 2 (As := []) (rest := []) (o := 163) (e ▸ skOK_F) clX12 cwX12_136 (m_X12_begins w 163 isK163 M66) isK163 rfl 343 dX12_init_340 rfl ⟨Nat.le_of_ble_eq_true rfl, Nat.le_of_ble_eq_true rfl⟩ ⟨Nat.le_of_ble_eq_true rfl, Nat.le_of_ble_eq_true rfl⟩ (Nat.le_of_ble_eq_true rfl) (fun M67 => ?_)
  exact goC_vret rfl dX12_init_343
theorem mC_X12_init {l : Launch} {G : mG} (w : Nat) (sk : List mS) : MtC l G yX12_init muX12_init 3 21 11812 [.ref (gB G + 163)] sk mZ (f_X12_init w sk) := MtC.of (by decide) rfl rfl (Nat.le_of_ble_eq_true rfl) (sC_X12_init w sk)
